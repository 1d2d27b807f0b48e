def nw_is : Cond → Bool := fun w => match w with
  | .methodLinkNest _ _ _ _ => true
  | .fieldLinkNest _ _ _ _ _ _ => true
  | _ => false
/-- the words that every method is given; the nest words, that go by the state -/
def gw_tbl : List Cond := k2_sels lw_privs ++ tables_1.filter goodWord
def nw_tbl : List Cond := tables_1.filter nw_is
theorem wd_T : ∀ w ∈ tables_1, w ∈ lw_tbl := fun _ h => List.mem_append_right _ h
theorem gw_T : ∀ w ∈ tables_1, goodWord w = true → w ∈ gw_tbl := fun _ h h2 => List.mem_append_right _ (List.mem_filter.mpr ⟨h, h2⟩)
theorem nw_T : ∀ w ∈ tables_1, nw_is w = true → w ∈ nw_tbl := fun _ h h2 => List.mem_filter.mpr ⟨h, h2⟩
theorem gw_lw : ∀ w ∈ gw_tbl, w ∈ lw_tbl := fun w h => (List.mem_append.mp h).elim (fun h => List.mem_append_left _ h) (fun h => List.mem_append_right _ (List.mem_filter.mp h).1)
theorem nw_lw : ∀ w ∈ nw_tbl, w ∈ lw_tbl := fun w h => List.mem_append_right _ (List.mem_filter.mp h).1
theorem wd_T1 : ∀ w ∈ tables_1_1, w ∈ lw_tbl := fun _ h => wd_T _ (List.mem_append_left _ h)
theorem gw_T1 : ∀ w ∈ tables_1_1, goodWord w = true → w ∈ gw_tbl := fun _ h => gw_T _ (List.mem_append_left _ h)
theorem nw_T1 : ∀ w ∈ tables_1_1, nw_is w = true → w ∈ nw_tbl := fun _ h => nw_T _ (List.mem_append_left _ h)
theorem wd_T2 : ∀ w ∈ tables_1_2, w ∈ lw_tbl := fun _ h => wd_T _ (List.mem_append_right _ (List.mem_append_left _ h))
theorem gw_T2 : ∀ w ∈ tables_1_2, goodWord w = true → w ∈ gw_tbl := fun _ h => gw_T _ (List.mem_append_right _ (List.mem_append_left _ h))
theorem nw_T2 : ∀ w ∈ tables_1_2, nw_is w = true → w ∈ nw_tbl := fun _ h => nw_T _ (List.mem_append_right _ (List.mem_append_left _ h))
theorem wd_T3 : ∀ w ∈ tables_1_3, w ∈ lw_tbl := fun _ h => wd_T _ (List.mem_append_right _ (List.mem_append_right _ (List.mem_append_left _ h)))
theorem gw_T3 : ∀ w ∈ tables_1_3, goodWord w = true → w ∈ gw_tbl := fun _ h => gw_T _ (List.mem_append_right _ (List.mem_append_right _ (List.mem_append_left _ h)))
theorem nw_T3 : ∀ w ∈ tables_1_3, nw_is w = true → w ∈ nw_tbl := fun _ h => nw_T _ (List.mem_append_right _ (List.mem_append_right _ (List.mem_append_left _ h)))
theorem wd_T4 : ∀ w ∈ tables_1_4, w ∈ lw_tbl := fun _ h => wd_T _ (List.mem_append_right _ (List.mem_append_right _ (List.mem_append_right _ (List.mem_append_left _ h))))
theorem gw_T4 : ∀ w ∈ tables_1_4, goodWord w = true → w ∈ gw_tbl := fun _ h => gw_T _ (List.mem_append_right _ (List.mem_append_right _ (List.mem_append_right _ (List.mem_append_left _ h))))
theorem nw_T4 : ∀ w ∈ tables_1_4, nw_is w = true → w ∈ nw_tbl := fun _ h => nw_T _ (List.mem_append_right _ (List.mem_append_right _ (List.mem_append_right _ (List.mem_append_left _ h))))
theorem wd_T5 : ∀ w ∈ tables_1_5, w ∈ lw_tbl := fun _ h => wd_T _ (List.mem_append_right _ (List.mem_append_right _ (List.mem_append_right _ (List.mem_append_right _ (List.mem_append_left _ h)))))
theorem gw_T5 : ∀ w ∈ tables_1_5, goodWord w = true → w ∈ gw_tbl := fun _ h => gw_T _ (List.mem_append_right _ (List.mem_append_right _ (List.mem_append_right _ (List.mem_append_right _ (List.mem_append_left _ h)))))
theorem nw_T5 : ∀ w ∈ tables_1_5, nw_is w = true → w ∈ nw_tbl := fun _ h => nw_T _ (List.mem_append_right _ (List.mem_append_right _ (List.mem_append_right _ (List.mem_append_right _ (List.mem_append_left _ h)))))
theorem wd_T6 : ∀ w ∈ tables_1_6, w ∈ lw_tbl := fun _ h => wd_T _ (List.mem_append_right _ (List.mem_append_right _ (List.mem_append_right _ (List.mem_append_right _ (List.mem_append_right _ (List.mem_append_left _ h))))))
theorem gw_T6 : ∀ w ∈ tables_1_6, goodWord w = true → w ∈ gw_tbl := fun _ h => gw_T _ (List.mem_append_right _ (List.mem_append_right _ (List.mem_append_right _ (List.mem_append_right _ (List.mem_append_right _ (List.mem_append_left _ h))))))
theorem nw_T6 : ∀ w ∈ tables_1_6, nw_is w = true → w ∈ nw_tbl := fun _ h => nw_T _ (List.mem_append_right _ (List.mem_append_right _ (List.mem_append_right _ (List.mem_append_right _ (List.mem_append_right _ (List.mem_append_left _ h))))))
theorem wd_T7 : ∀ w ∈ tables_1_7, w ∈ lw_tbl := fun _ h => wd_T _ (List.mem_append_right _ (List.mem_append_right _ (List.mem_append_right _ (List.mem_append_right _ (List.mem_append_right _ (List.mem_append_right _ (List.mem_append_left _ h)))))))
theorem gw_T7 : ∀ w ∈ tables_1_7, goodWord w = true → w ∈ gw_tbl := fun _ h => gw_T _ (List.mem_append_right _ (List.mem_append_right _ (List.mem_append_right _ (List.mem_append_right _ (List.mem_append_right _ (List.mem_append_right _ (List.mem_append_left _ h)))))))
theorem nw_T7 : ∀ w ∈ tables_1_7, nw_is w = true → w ∈ nw_tbl := fun _ h => nw_T _ (List.mem_append_right _ (List.mem_append_right _ (List.mem_append_right _ (List.mem_append_right _ (List.mem_append_right _ (List.mem_append_right _ (List.mem_append_left _ h)))))))
theorem wd_T8 : ∀ w ∈ tables_1_8, w ∈ lw_tbl := fun _ h => wd_T _ (List.mem_append_right _ (List.mem_append_right _ (List.mem_append_right _ (List.mem_append_right _ (List.mem_append_right _ (List.mem_append_right _ (List.mem_append_right _ (h))))))))
theorem gw_T8 : ∀ w ∈ tables_1_8, goodWord w = true → w ∈ gw_tbl := fun _ h => gw_T _ (List.mem_append_right _ (List.mem_append_right _ (List.mem_append_right _ (List.mem_append_right _ (List.mem_append_right _ (List.mem_append_right _ (List.mem_append_right _ (h))))))))
theorem nw_T8 : ∀ w ∈ tables_1_8, nw_is w = true → w ∈ nw_tbl := fun _ h => nw_T _ (List.mem_append_right _ (List.mem_append_right _ (List.mem_append_right _ (List.mem_append_right _ (List.mem_append_right _ (List.mem_append_right _ (List.mem_append_right _ (h))))))))
theorem wd_0 : Cond.initialized "LateMirrorsLaw" ∈ gw_tbl := gw_T1 _ (List.mem_of_getElem? (i := 0) rfl) rfl
theorem wd_1 : Cond.initialized "LateMirrors" ∈ gw_tbl := gw_T1 _ (List.mem_of_getElem? (i := 1) rfl) rfl
theorem wd_2 : Cond.initialized "LateMirrors$Scanner" ∈ gw_tbl := gw_T1 _ (List.mem_of_getElem? (i := 2) rfl) rfl
theorem wd_3 : Cond.initialized "java/lang/String" ∈ gw_tbl := gw_T1 _ (List.mem_of_getElem? (i := 3) rfl) rfl
theorem wd_4 : Cond.initialized "java/lang/StringLatin1" ∈ gw_tbl := gw_T1 _ (List.mem_of_getElem? (i := 4) rfl) rfl
theorem wd_5 : Cond.initialized "jdk/internal/util/Preconditions" ∈ gw_tbl := gw_T1 _ (List.mem_of_getElem? (i := 5) rfl) rfl
theorem wd_6 : Cond.initialized "java/lang/StringUTF16" ∈ gw_tbl := gw_T1 _ (List.mem_of_getElem? (i := 6) rfl) rfl
theorem wd_7 : Cond.initialized "java/lang/Math" ∈ gw_tbl := gw_T1 _ (List.mem_of_getElem? (i := 7) rfl) rfl
theorem wd_8 : Cond.initialized "LateMirrors$Text" ∈ gw_tbl := gw_T1 _ (List.mem_of_getElem? (i := 8) rfl) rfl
theorem wd_9 : Cond.initialized "LateMirrors$Laws" ∈ gw_tbl := gw_T1 _ (List.mem_of_getElem? (i := 9) rfl) rfl
theorem wd_10 : Cond.initialized "LateMirrors$Court" ∈ gw_tbl := gw_T1 _ (List.mem_of_getElem? (i := 10) rfl) rfl
theorem wd_11 : Cond.initialized "java/lang/System" ∈ gw_tbl := gw_T1 _ (List.mem_of_getElem? (i := 11) rfl) rfl
theorem wd_12 : Cond.initialized "java/lang/Integer" ∈ gw_tbl := gw_T1 _ (List.mem_of_getElem? (i := 12) rfl) rfl
theorem wd_13 : Cond.initialized "LateMirrors$Past" ∈ gw_tbl := gw_T1 _ (List.mem_of_getElem? (i := 13) rfl) rfl
theorem wd_14 : Cond.initialized "LateMirrorsModel" ∈ gw_tbl := gw_T1 _ (List.mem_of_getElem? (i := 14) rfl) rfl
theorem wd_15 : Cond.initialized "java/lang/Character" ∈ gw_tbl := gw_T1 _ (List.mem_of_getElem? (i := 15) rfl) rfl
theorem wd_16 : Cond.classLink "LateMirrorsLaw" 7 "LateMirrors" ∈ gw_tbl := gw_T1 _ (List.mem_of_getElem? (i := 16) rfl) rfl
theorem wd_17 : Cond.instantiable "LateMirrors" 16 ∈ gw_tbl := gw_T1 _ (List.mem_of_getElem? (i := 17) rfl) rfl
theorem wd_18 : Cond.methodLink "LateMirrorsLaw" 9 yX5_init ∈ gw_tbl := gw_T1 _ (List.mem_of_getElem? (i := 18) rfl) rfl
theorem wd_19 : Cond.instanceMethod yX5_init ∈ gw_tbl := gw_T1 _ (List.mem_of_getElem? (i := 19) rfl) rfl
theorem wd_20 : Cond.code yX5_init prog_1_method_1_code 2 (Option.none : Option Jvm.ClassFile.FieldType) ∈ gw_tbl := gw_T1 _ (List.mem_of_getElem? (i := 20) rfl) rfl
theorem wd_21 : Cond.methodLink "LateMirrors" 1 (⟨"java/lang/Object", "<init>", "()V"⟩ : MethodName) ∈ gw_tbl := gw_T1 _ (List.mem_of_getElem? (i := 21) rfl) rfl
theorem wd_22 : Cond.instanceMethod (⟨"java/lang/Object", "<init>", "()V"⟩ : MethodName) ∈ gw_tbl := gw_T1 _ (List.mem_of_getElem? (i := 22) rfl) rfl
theorem wd_23 : Cond.code (⟨"java/lang/Object", "<init>", "()V"⟩ : MethodName) object_method_1_code 1 (Option.none : Option Jvm.ClassFile.FieldType) ∈ gw_tbl := gw_T1 _ (List.mem_of_getElem? (i := 23) rfl) rfl
theorem wd_24 : Cond.classLink "LateMirrors" 17 "LateMirrors$Scanner" ∈ gw_tbl := gw_T1 _ (List.mem_of_getElem? (i := 24) rfl) rfl
theorem wd_25 : Cond.instantiable "LateMirrors$Scanner" 15 ∈ gw_tbl := gw_T1 _ (List.mem_of_getElem? (i := 25) rfl) rfl
theorem wd_26 : Cond.methodLinkNest "LateMirrors" 19 yX3_init "LateMirrors" ∈ nw_tbl := nw_T1 _ (List.mem_of_getElem? (i := 26) rfl) rfl
theorem wd_27 : Cond.instanceMethod yX3_init ∈ gw_tbl := gw_T1 _ (List.mem_of_getElem? (i := 27) rfl) rfl
theorem wd_28 : Cond.code yX3_init prog_5_method_1_code 4 (Option.none : Option Jvm.ClassFile.FieldType) ∈ gw_tbl := gw_T1 _ (List.mem_of_getElem? (i := 28) rfl) rfl
theorem wd_29 : Cond.methodLink "LateMirrors$Scanner" 3 (⟨"java/lang/Object", "<init>", "()V"⟩ : MethodName) ∈ gw_tbl := gw_T1 _ (List.mem_of_getElem? (i := 29) rfl) rfl
theorem wd_30 : Cond.fieldLink "LateMirrors$Scanner" 29 "LateMirrors$Scanner" "MOST" "[I" ∈ gw_tbl := gw_T1 _ (List.mem_of_getElem? (i := 30) rfl) rfl
theorem wd_31 : Cond.laysStatic "LateMirrors$Scanner" "MOST" "[I" ∈ lw_tbl := wd_T1 _ (List.mem_of_getElem? (i := 31) rfl)
theorem wd_32 : Cond.stringRef "LateMirrors$Scanner" 35 "room door man goes mirror late breaks seed if then else minute here rank number ways with " ∈ lw_tbl := wd_T1 _ (List.mem_of_getElem? (i := 32) rfl)
theorem wd_33 : Cond.methodLink "LateMirrors$Scanner" 37 yJ0_length_8abf5 ∈ gw_tbl := gw_T1 _ (List.mem_of_getElem? (i := 33) rfl) rfl
theorem wd_34 : Cond.instanceMethod yJ0_length_8abf5 ∈ gw_tbl := gw_T1 _ (List.mem_of_getElem? (i := 34) rfl) rfl
theorem wd_35 : Cond.selects "java/lang/String" yJ0_length_8abf5 yJ0_length_8abf5 ∈ gw_tbl := gw_T1 _ (List.mem_of_getElem? (i := 35) rfl) rfl
theorem wd_36 : Cond.code yJ0_length_8abf5 prog_12_method_54_code 1 (Option.some Jvm.ClassFile.FieldType.int) ∈ gw_tbl := gw_T1 _ (List.mem_of_getElem? (i := 36) rfl) rfl
theorem wd_37 : Cond.methodLink "java/lang/String" 335 yJ0_coder_7d493 ∈ gw_tbl := gw_T1 _ (List.mem_of_getElem? (i := 37) rfl) rfl
theorem wd_38 : Cond.instanceMethod yJ0_coder_7d493 ∈ gw_tbl := gw_T1 _ (List.mem_of_getElem? (i := 38) rfl) rfl
theorem wd_39 : Cond.selects "java/lang/String" yJ0_coder_7d493 yJ0_coder_7d493 ∈ gw_tbl := gw_T1 _ (List.mem_of_getElem? (i := 39) rfl) rfl
theorem wd_40 : Cond.code yJ0_coder_7d493 prog_12_method_152_code 1 (Option.some Jvm.ClassFile.FieldType.byte) ∈ gw_tbl := gw_T1 _ (List.mem_of_getElem? (i := 40) rfl) rfl
theorem wd_41 : Cond.fieldLink "java/lang/String" 38 "java/lang/String" "COMPACT_STRINGS" "Z" ∈ gw_tbl := gw_T1 _ (List.mem_of_getElem? (i := 41) rfl) rfl
theorem wd_42 : Cond.laysStatic "java/lang/String" "COMPACT_STRINGS" "Z" ∈ lw_tbl := wd_T1 _ (List.mem_of_getElem? (i := 42) rfl)
theorem wd_43 : Cond.methodLink "LateMirrors$Scanner" 43 yJ0_charAt_5068e ∈ gw_tbl := gw_T1 _ (List.mem_of_getElem? (i := 43) rfl) rfl
theorem wd_44 : Cond.instanceMethod yJ0_charAt_5068e ∈ gw_tbl := gw_T1 _ (List.mem_of_getElem? (i := 44) rfl) rfl
theorem wd_45 : Cond.selects "java/lang/String" yJ0_charAt_5068e yJ0_charAt_5068e ∈ gw_tbl := gw_T1 _ (List.mem_of_getElem? (i := 45) rfl) rfl
theorem wd_46 : Cond.code yJ0_charAt_5068e prog_12_method_56_code 2 (Option.some Jvm.ClassFile.FieldType.char) ∈ gw_tbl := gw_T1 _ (List.mem_of_getElem? (i := 46) rfl) rfl
theorem wd_47 : Cond.methodLink "java/lang/String" 492 yJ0_isLatin1_aae02 ∈ gw_tbl := gw_T1 _ (List.mem_of_getElem? (i := 47) rfl) rfl
theorem wd_48 : Cond.instanceMethod yJ0_isLatin1_aae02 ∈ gw_tbl := gw_T1 _ (List.mem_of_getElem? (i := 48) rfl) rfl
theorem wd_49 : Cond.selects "java/lang/String" yJ0_isLatin1_aae02 yJ0_isLatin1_aae02 ∈ gw_tbl := gw_T1 _ (List.mem_of_getElem? (i := 49) rfl) rfl
theorem wd_50 : Cond.code yJ0_isLatin1_aae02 prog_12_method_154_code 1 (Option.some Jvm.ClassFile.FieldType.boolean) ∈ gw_tbl := gw_T1 _ (List.mem_of_getElem? (i := 50) rfl) rfl
theorem wd_51 : Cond.methodLink "java/lang/String" 495 yJ1_charAt_3b067 ∈ gw_tbl := gw_T1 _ (List.mem_of_getElem? (i := 51) rfl) rfl
theorem wd_52 : Cond.static yJ1_charAt_3b067 ∈ gw_tbl := gw_T1 _ (List.mem_of_getElem? (i := 52) rfl) rfl
theorem wd_53 : Cond.code yJ1_charAt_3b067 prog_13_method_2_code 2 (Option.some Jvm.ClassFile.FieldType.char) ∈ gw_tbl := gw_T1 _ (List.mem_of_getElem? (i := 53) rfl) rfl
theorem wd_54 : Cond.methodLink "java/lang/StringLatin1" 9 yJ0_checkIndex_df160 ∈ gw_tbl := gw_T1 _ (List.mem_of_getElem? (i := 54) rfl) rfl
theorem wd_55 : Cond.static yJ0_checkIndex_df160 ∈ gw_tbl := gw_T1 _ (List.mem_of_getElem? (i := 55) rfl) rfl
theorem wd_56 : Cond.code yJ0_checkIndex_df160 prog_12_method_155_code 2 (Option.none : Option Jvm.ClassFile.FieldType) ∈ gw_tbl := gw_T1 _ (List.mem_of_getElem? (i := 56) rfl) rfl
theorem wd_57 : Cond.fieldLink "java/lang/String" 1053 "jdk/internal/util/Preconditions" "SIOOBE_FORMATTER" "Ljava/util/function/BiFunction;" ∈ gw_tbl := gw_T1 _ (List.mem_of_getElem? (i := 57) rfl) rfl
theorem wd_58 : Cond.laysStatic "jdk/internal/util/Preconditions" "SIOOBE_FORMATTER" "Ljava/util/function/BiFunction;" ∈ lw_tbl := wd_T1 _ (List.mem_of_getElem? (i := 58) rfl)
theorem wd_59 : Cond.methodLink "java/lang/String" 1059 yJ3_checkIndex_8e157 ∈ gw_tbl := gw_T1 _ (List.mem_of_getElem? (i := 59) rfl) rfl
theorem wd_60 : Cond.static yJ3_checkIndex_8e157 ∈ gw_tbl := gw_T1 _ (List.mem_of_getElem? (i := 60) rfl) rfl
theorem wd_61 : Cond.code yJ3_checkIndex_8e157 prog_16_method_11_code 3 (Option.some Jvm.ClassFile.FieldType.int) ∈ gw_tbl := gw_T1 _ (List.mem_of_getElem? (i := 61) rfl) rfl
theorem wd_62 : Cond.methodLink "java/lang/String" 498 yJ2_charAt_3b067 ∈ gw_tbl := gw_T1 _ (List.mem_of_getElem? (i := 62) rfl) rfl
theorem wd_63 : Cond.static yJ2_charAt_3b067 ∈ gw_tbl := gw_T1 _ (List.mem_of_getElem? (i := 63) rfl) rfl
theorem wd_64 : Cond.code yJ2_charAt_3b067 prog_14_method_83_code 2 (Option.some Jvm.ClassFile.FieldType.char) ∈ gw_tbl := gw_T1 _ (List.mem_of_getElem? (i := 64) rfl) rfl
theorem wd_65 : Cond.methodLink "java/lang/StringUTF16" 67 yJ2_checkIndex_2214a ∈ gw_tbl := gw_T1 _ (List.mem_of_getElem? (i := 65) rfl) rfl
theorem wd_66 : Cond.static yJ2_checkIndex_2214a ∈ gw_tbl := gw_T1 _ (List.mem_of_getElem? (i := 66) rfl) rfl
theorem wd_67 : Cond.code yJ2_checkIndex_2214a prog_14_method_91_code 2 (Option.none : Option Jvm.ClassFile.FieldType) ∈ gw_tbl := gw_T1 _ (List.mem_of_getElem? (i := 67) rfl) rfl
theorem wd_68 : Cond.methodLink "java/lang/StringUTF16" 48 yJ2_length_9d52b ∈ gw_tbl := gw_T1 _ (List.mem_of_getElem? (i := 68) rfl) rfl
theorem wd_69 : Cond.static yJ2_length_9d52b ∈ gw_tbl := gw_T1 _ (List.mem_of_getElem? (i := 69) rfl) rfl
theorem wd_70 : Cond.code yJ2_length_9d52b prog_14_method_6_code 1 (Option.some Jvm.ClassFile.FieldType.int) ∈ gw_tbl := gw_T1 _ (List.mem_of_getElem? (i := 70) rfl) rfl
theorem wd_71 : Cond.methodLink "java/lang/StringUTF16" 414 yJ0_checkIndex_df160 ∈ gw_tbl := gw_T1 _ (List.mem_of_getElem? (i := 71) rfl) rfl
theorem wd_72 : Cond.methodLink "java/lang/StringUTF16" 71 yJ2_getChar_3b067 ∈ gw_tbl := gw_T1 _ (List.mem_of_getElem? (i := 72) rfl) rfl
theorem wd_73 : Cond.static yJ2_getChar_3b067 ∈ gw_tbl := gw_T1 _ (List.mem_of_getElem? (i := 73) rfl) rfl
theorem wd_74 : Cond.code yJ2_getChar_3b067 prog_14_method_5_code 2 (Option.some Jvm.ClassFile.FieldType.char) ∈ gw_tbl := gw_T1 _ (List.mem_of_getElem? (i := 74) rfl) rfl
theorem wd_75 : Cond.fieldLink "java/lang/StringUTF16" 44 "java/lang/StringUTF16" "$assertionsDisabled" "Z" ∈ gw_tbl := gw_T1 _ (List.mem_of_getElem? (i := 75) rfl) rfl
theorem wd_76 : Cond.laysStatic "java/lang/StringUTF16" "$assertionsDisabled" "Z" ∈ lw_tbl := wd_T1 _ (List.mem_of_getElem? (i := 76) rfl)
theorem wd_77 : Cond.fieldLink "java/lang/StringUTF16" 59 "java/lang/StringUTF16" "HI_BYTE_SHIFT" "I" ∈ gw_tbl := gw_T1 _ (List.mem_of_getElem? (i := 77) rfl) rfl
theorem wd_78 : Cond.laysStatic "java/lang/StringUTF16" "HI_BYTE_SHIFT" "I" ∈ lw_tbl := wd_T1 _ (List.mem_of_getElem? (i := 78) rfl)
theorem wd_79 : Cond.fieldLink "java/lang/StringUTF16" 63 "java/lang/StringUTF16" "LO_BYTE_SHIFT" "I" ∈ gw_tbl := gw_T1 _ (List.mem_of_getElem? (i := 79) rfl) rfl
theorem wd_80 : Cond.laysStatic "java/lang/StringUTF16" "LO_BYTE_SHIFT" "I" ∈ lw_tbl := wd_T1 _ (List.mem_of_getElem? (i := 80) rfl)
theorem wd_81 : Cond.methodLink "LateMirrors$Scanner" 47 yX3_codeOfWord ∈ gw_tbl := gw_T1 _ (List.mem_of_getElem? (i := 81) rfl) rfl
theorem wd_82 : Cond.static yX3_codeOfWord ∈ gw_tbl := gw_T1 _ (List.mem_of_getElem? (i := 82) rfl) rfl
theorem wd_83 : Cond.code yX3_codeOfWord prog_5_method_2_code 5 (Option.some Jvm.ClassFile.FieldType.long) ∈ gw_tbl := gw_T1 _ (List.mem_of_getElem? (i := 83) rfl) rfl
theorem wd_84 : Cond.methodLink "LateMirrors$Scanner" 55 yJ9_max_7cf53 ∈ gw_tbl := gw_T1 _ (List.mem_of_getElem? (i := 84) rfl) rfl
theorem wd_85 : Cond.static yJ9_max_7cf53 ∈ gw_tbl := gw_T1 _ (List.mem_of_getElem? (i := 85) rfl) rfl
theorem wd_86 : Cond.code yJ9_max_7cf53 prog_11_method_65_code 2 (Option.some Jvm.ClassFile.FieldType.int) ∈ gw_tbl := gw_T1 _ (List.mem_of_getElem? (i := 86) rfl) rfl
theorem wd_87 : Cond.methodLink "LateMirrors$Scanner" 61 yX3_addLetter ∈ gw_tbl := gw_T1 _ (List.mem_of_getElem? (i := 87) rfl) rfl
theorem wd_88 : Cond.static yX3_addLetter ∈ gw_tbl := gw_T1 _ (List.mem_of_getElem? (i := 88) rfl) rfl
theorem wd_89 : Cond.code yX3_addLetter prog_5_method_3_code 3 (Option.some Jvm.ClassFile.FieldType.long) ∈ gw_tbl := gw_T1 _ (List.mem_of_getElem? (i := 89) rfl) rfl
theorem wd_90 : Cond.constantLong "LateMirrors$Scanner" 65 (32 : Int64) ∈ gw_tbl := gw_T1 _ (List.mem_of_getElem? (i := 90) rfl) rfl
theorem wd_91 : Cond.methodLinkNest "LateMirrors$Scanner" 51 yX5_putLong "LateMirrors" ∈ nw_tbl := nw_T1 _ (List.mem_of_getElem? (i := 91) rfl) rfl
theorem wd_92 : Cond.static yX5_putLong ∈ gw_tbl := gw_T1 _ (List.mem_of_getElem? (i := 92) rfl) rfl
theorem wd_93 : Cond.code yX5_putLong prog_1_method_74_code 4 (Option.none : Option Jvm.ClassFile.FieldType) ∈ gw_tbl := gw_T1 _ (List.mem_of_getElem? (i := 93) rfl) rfl
theorem wd_94 : Cond.fieldLink "LateMirrors$Scanner" 11 "LateMirrors$Scanner" "words" "[J" ∈ gw_tbl := gw_T1 _ (List.mem_of_getElem? (i := 94) rfl) rfl
theorem wd_95 : Cond.fieldLink "LateMirrors$Scanner" 15 "LateMirrors$Scanner" "kinds" "[I" ∈ gw_tbl := gw_T1 _ (List.mem_of_getElem? (i := 95) rfl) rfl
theorem wd_96 : Cond.fieldLinkNest "LateMirrors$Text" 88 "LateMirrors$Scanner" "kinds" "[I" "LateMirrors" ∈ nw_tbl := nw_T1 _ (List.mem_of_getElem? (i := 96) rfl) rfl
theorem wd_97 : Cond.fieldLinkNest "LateMirrors$Laws" 45 "LateMirrors$Scanner" "kinds" "[I" "LateMirrors" ∈ nw_tbl := nw_T1 _ (List.mem_of_getElem? (i := 97) rfl) rfl
theorem wd_98 : Cond.fieldLink "LateMirrors$Scanner" 19 "LateMirrors$Scanner" "places" "[I" ∈ gw_tbl := gw_T1 _ (List.mem_of_getElem? (i := 98) rfl) rfl
theorem wd_99 : Cond.fieldLinkNest "LateMirrors$Text" 128 "LateMirrors$Scanner" "places" "[I" "LateMirrors" ∈ nw_tbl := nw_T1 _ (List.mem_of_getElem? (i := 99) rfl) rfl
theorem wd_100 : Cond.fieldLink "LateMirrors$Scanner" 22 "LateMirrors$Scanner" "values" "[J" ∈ gw_tbl := gw_T1 _ (List.mem_of_getElem? (i := 100) rfl) rfl
theorem wd_101 : Cond.fieldLinkNest "LateMirrors$Laws" 52 "LateMirrors$Scanner" "values" "[J" "LateMirrors" ∈ nw_tbl := nw_T1 _ (List.mem_of_getElem? (i := 101) rfl) rfl
theorem wd_102 : Cond.fieldLinkNest "LateMirrors$Text" 131 "LateMirrors$Scanner" "values" "[J" "LateMirrors" ∈ nw_tbl := nw_T1 _ (List.mem_of_getElem? (i := 102) rfl) rfl
theorem wd_103 : Cond.fieldLinkNest "LateMirrors$Text" 79 "LateMirrors$Scanner" "size" "I" "LateMirrors" ∈ nw_tbl := nw_T1 _ (List.mem_of_getElem? (i := 103) rfl) rfl
theorem wd_104 : Cond.fieldLinkNest "LateMirrors$Laws" 42 "LateMirrors$Scanner" "size" "I" "LateMirrors" ∈ nw_tbl := nw_T1 _ (List.mem_of_getElem? (i := 104) rfl) rfl
theorem wd_105 : Cond.fieldLink "LateMirrors$Scanner" 98 "LateMirrors$Scanner" "size" "I" ∈ gw_tbl := gw_T1 _ (List.mem_of_getElem? (i := 105) rfl) rfl
theorem wd_106 : Cond.fieldLink "LateMirrors$Scanner" 25 "LateMirrors$Scanner" "faultAt" "I" ∈ gw_tbl := gw_T1 _ (List.mem_of_getElem? (i := 106) rfl) rfl
theorem wd_107 : Cond.fieldLinkNest "LateMirrors" 84 "LateMirrors$Scanner" "faultAt" "I" "LateMirrors" ∈ nw_tbl := nw_T1 _ (List.mem_of_getElem? (i := 107) rfl) rfl
theorem wd_108 : Cond.fieldLink "LateMirrors$Scanner" 105 "LateMirrors$Scanner" "value" "J" ∈ gw_tbl := gw_T1 _ (List.mem_of_getElem? (i := 108) rfl) rfl
theorem wd_109 : Cond.fieldLink "LateMirrors$Scanner" 32 "LateMirrors$Scanner" "tells" "[I" ∈ gw_tbl := gw_T1 _ (List.mem_of_getElem? (i := 109) rfl) rfl
theorem wd_110 : Cond.fieldLink "LateMirrors$Scanner" 95 "LateMirrors$Scanner" "tellKind" "I" ∈ gw_tbl := gw_T1 _ (List.mem_of_getElem? (i := 110) rfl) rfl
theorem wd_111 : Cond.fieldLink "LateMirrors$Scanner" 158 "LateMirrors$Scanner" "spot" "I" ∈ gw_tbl := gw_T1 _ (List.mem_of_getElem? (i := 111) rfl) rfl
theorem wd_112 : Cond.fieldLink "LateMirrors$Scanner" 168 "LateMirrors$Scanner" "part" "I" ∈ gw_tbl := gw_T1 _ (List.mem_of_getElem? (i := 112) rfl) rfl
theorem wd_113 : Cond.fieldLink "LateMirrors$Scanner" 181 "LateMirrors$Scanner" "wantsUnit" "Z" ∈ gw_tbl := gw_T1 _ (List.mem_of_getElem? (i := 113) rfl) rfl
theorem wd_114 : Cond.fieldLink "LateMirrors$Scanner" 191 "LateMirrors$Scanner" "fresh" "Z" ∈ gw_tbl := gw_T1 _ (List.mem_of_getElem? (i := 114) rfl) rfl
theorem wd_115 : Cond.fieldLink "LateMirrors$Scanner" 171 "LateMirrors$Scanner" "brackets" "I" ∈ gw_tbl := gw_T1 _ (List.mem_of_getElem? (i := 115) rfl) rfl
theorem wd_116 : Cond.fieldLink "LateMirrors$Scanner" 174 "LateMirrors$Scanner" "ifs" "I" ∈ gw_tbl := gw_T1 _ (List.mem_of_getElem? (i := 116) rfl) rfl
theorem wd_117 : Cond.laysFinal "LateMirrors$Scanner" "LateMirrors$Scanner" "words" "[J" ∈ gw_tbl := gw_T1 _ (List.mem_of_getElem? (i := 117) rfl) rfl
theorem wd_118 : Cond.soleField "LateMirrors$Scanner" "words" ∈ gw_tbl := gw_T1 _ (List.mem_of_getElem? (i := 118) rfl) rfl
theorem wd_119 : Cond.laysFinal "LateMirrors$Scanner" "LateMirrors$Scanner" "kinds" "[I" ∈ gw_tbl := gw_T1 _ (List.mem_of_getElem? (i := 119) rfl) rfl
theorem wd_120 : Cond.soleField "LateMirrors$Scanner" "kinds" ∈ gw_tbl := gw_T1 _ (List.mem_of_getElem? (i := 120) rfl) rfl
theorem wd_121 : Cond.laysFinal "LateMirrors$Scanner" "LateMirrors$Scanner" "places" "[I" ∈ gw_tbl := gw_T1 _ (List.mem_of_getElem? (i := 121) rfl) rfl
theorem wd_122 : Cond.soleField "LateMirrors$Scanner" "places" ∈ gw_tbl := gw_T1 _ (List.mem_of_getElem? (i := 122) rfl) rfl
theorem wd_123 : Cond.laysFinal "LateMirrors$Scanner" "LateMirrors$Scanner" "values" "[J" ∈ gw_tbl := gw_T1 _ (List.mem_of_getElem? (i := 123) rfl) rfl
theorem wd_124 : Cond.soleField "LateMirrors$Scanner" "values" ∈ gw_tbl := gw_T1 _ (List.mem_of_getElem? (i := 124) rfl) rfl
theorem wd_125 : Cond.lays "LateMirrors$Scanner" "LateMirrors$Scanner" "size" "I" ∈ gw_tbl := gw_T1 _ (List.mem_of_getElem? (i := 125) rfl) rfl
theorem wd_126 : Cond.soleField "LateMirrors$Scanner" "size" ∈ gw_tbl := gw_T1 _ (List.mem_of_getElem? (i := 126) rfl) rfl
theorem wd_127 : Cond.lays "LateMirrors$Scanner" "LateMirrors$Scanner" "faultAt" "I" ∈ gw_tbl := gw_T1 _ (List.mem_of_getElem? (i := 127) rfl) rfl
theorem wd_128 : Cond.soleField "LateMirrors$Scanner" "faultAt" ∈ gw_tbl := gw_T1 _ (List.mem_of_getElem? (i := 128) rfl) rfl
theorem wd_129 : Cond.lays "LateMirrors$Scanner" "LateMirrors$Scanner" "value" "J" ∈ gw_tbl := gw_T1 _ (List.mem_of_getElem? (i := 129) rfl) rfl
theorem wd_130 : Cond.soleField "LateMirrors$Scanner" "value" ∈ gw_tbl := gw_T1 _ (List.mem_of_getElem? (i := 130) rfl) rfl
theorem wd_131 : Cond.laysFinal "LateMirrors$Scanner" "LateMirrors$Scanner" "tells" "[I" ∈ gw_tbl := gw_T1 _ (List.mem_of_getElem? (i := 131) rfl) rfl
theorem wd_132 : Cond.soleField "LateMirrors$Scanner" "tells" ∈ gw_tbl := gw_T1 _ (List.mem_of_getElem? (i := 132) rfl) rfl
theorem wd_133 : Cond.lays "LateMirrors$Scanner" "LateMirrors$Scanner" "tellKind" "I" ∈ gw_tbl := gw_T1 _ (List.mem_of_getElem? (i := 133) rfl) rfl
theorem wd_134 : Cond.soleField "LateMirrors$Scanner" "tellKind" ∈ gw_tbl := gw_T1 _ (List.mem_of_getElem? (i := 134) rfl) rfl
theorem wd_135 : Cond.lays "LateMirrors$Scanner" "LateMirrors$Scanner" "spot" "I" ∈ gw_tbl := gw_T1 _ (List.mem_of_getElem? (i := 135) rfl) rfl
theorem wd_136 : Cond.soleField "LateMirrors$Scanner" "spot" ∈ gw_tbl := gw_T1 _ (List.mem_of_getElem? (i := 136) rfl) rfl
theorem wd_137 : Cond.lays "LateMirrors$Scanner" "LateMirrors$Scanner" "part" "I" ∈ gw_tbl := gw_T1 _ (List.mem_of_getElem? (i := 137) rfl) rfl
theorem wd_138 : Cond.soleField "LateMirrors$Scanner" "part" ∈ gw_tbl := gw_T1 _ (List.mem_of_getElem? (i := 138) rfl) rfl
theorem wd_139 : Cond.lays "LateMirrors$Scanner" "LateMirrors$Scanner" "wantsUnit" "Z" ∈ gw_tbl := gw_T1 _ (List.mem_of_getElem? (i := 139) rfl) rfl
theorem wd_140 : Cond.soleField "LateMirrors$Scanner" "wantsUnit" ∈ gw_tbl := gw_T1 _ (List.mem_of_getElem? (i := 140) rfl) rfl
theorem wd_141 : Cond.lays "LateMirrors$Scanner" "LateMirrors$Scanner" "fresh" "Z" ∈ gw_tbl := gw_T1 _ (List.mem_of_getElem? (i := 141) rfl) rfl
theorem wd_142 : Cond.soleField "LateMirrors$Scanner" "fresh" ∈ gw_tbl := gw_T1 _ (List.mem_of_getElem? (i := 142) rfl) rfl
theorem wd_143 : Cond.lays "LateMirrors$Scanner" "LateMirrors$Scanner" "brackets" "I" ∈ gw_tbl := gw_T1 _ (List.mem_of_getElem? (i := 143) rfl) rfl
theorem wd_144 : Cond.soleField "LateMirrors$Scanner" "brackets" ∈ gw_tbl := gw_T1 _ (List.mem_of_getElem? (i := 144) rfl) rfl
theorem wd_145 : Cond.lays "LateMirrors$Scanner" "LateMirrors$Scanner" "ifs" "I" ∈ gw_tbl := gw_T1 _ (List.mem_of_getElem? (i := 145) rfl) rfl
theorem wd_146 : Cond.soleField "LateMirrors$Scanner" "ifs" ∈ gw_tbl := gw_T1 _ (List.mem_of_getElem? (i := 146) rfl) rfl
theorem wd_147 : Cond.superclass "LateMirrors$Scanner" "java/lang/Object" ∈ gw_tbl := gw_T1 _ (List.mem_of_getElem? (i := 147) rfl) rfl
theorem wd_148 : Cond.arrayClass Jvm.ClassFile.FieldType.int ∈ gw_tbl := gw_T1 _ (List.mem_of_getElem? (i := 148) rfl) rfl
theorem wd_149 : Cond.arrayClass Jvm.ClassFile.FieldType.long ∈ gw_tbl := gw_T1 _ (List.mem_of_getElem? (i := 149) rfl) rfl
theorem wd_150 : Cond.arrayClass Jvm.ClassFile.FieldType.byte ∈ gw_tbl := gw_T1 _ (List.mem_of_getElem? (i := 150) rfl) rfl
theorem wd_151 : Cond.classLink "LateMirrors" 24 "LateMirrors$Text" ∈ gw_tbl := gw_T1 _ (List.mem_of_getElem? (i := 151) rfl) rfl
theorem wd_152 : Cond.instantiable "LateMirrors$Text" 19 ∈ gw_tbl := gw_T1 _ (List.mem_of_getElem? (i := 152) rfl) rfl
theorem wd_153 : Cond.methodLinkNest "LateMirrors" 26 yX4_init "LateMirrors" ∈ nw_tbl := nw_T1 _ (List.mem_of_getElem? (i := 153) rfl) rfl
theorem wd_154 : Cond.instanceMethod yX4_init ∈ gw_tbl := gw_T1 _ (List.mem_of_getElem? (i := 154) rfl) rfl
theorem wd_155 : Cond.code yX4_init prog_6_method_1_code 1 (Option.none : Option Jvm.ClassFile.FieldType) ∈ gw_tbl := gw_T1 _ (List.mem_of_getElem? (i := 155) rfl) rfl
theorem wd_156 : Cond.methodLink "LateMirrors$Text" 3 (⟨"java/lang/Object", "<init>", "()V"⟩ : MethodName) ∈ gw_tbl := gw_T1 _ (List.mem_of_getElem? (i := 156) rfl) rfl
theorem wd_157 : Cond.classLink "LateMirrors$Text" 37 "LateMirrors$Laws" ∈ gw_tbl := gw_T1 _ (List.mem_of_getElem? (i := 157) rfl) rfl
theorem wd_158 : Cond.instantiable "LateMirrors$Laws" 7 ∈ gw_tbl := gw_T1 _ (List.mem_of_getElem? (i := 158) rfl) rfl
theorem wd_159 : Cond.methodLinkNest "LateMirrors$Text" 39 yX1_init "LateMirrors" ∈ nw_tbl := nw_T1 _ (List.mem_of_getElem? (i := 159) rfl) rfl
theorem wd_160 : Cond.instanceMethod yX1_init ∈ gw_tbl := gw_T1 _ (List.mem_of_getElem? (i := 160) rfl) rfl
theorem wd_161 : Cond.code yX1_init prog_3_method_1_code 1 (Option.none : Option Jvm.ClassFile.FieldType) ∈ gw_tbl := gw_T1 _ (List.mem_of_getElem? (i := 161) rfl) rfl
theorem wd_162 : Cond.methodLink "LateMirrors$Laws" 1 (⟨"java/lang/Object", "<init>", "()V"⟩ : MethodName) ∈ gw_tbl := gw_T1 _ (List.mem_of_getElem? (i := 162) rfl) rfl
theorem wd_163 : Cond.fieldLink "LateMirrors$Laws" 9 "LateMirrors$Laws" "codes" "[I" ∈ gw_tbl := gw_T1 _ (List.mem_of_getElem? (i := 163) rfl) rfl
theorem wd_164 : Cond.fieldLink "LateMirrors$Laws" 13 "LateMirrors$Laws" "operands" "[I" ∈ gw_tbl := gw_T1 _ (List.mem_of_getElem? (i := 164) rfl) rfl
theorem wd_165 : Cond.fieldLink "LateMirrors$Laws" 25 "LateMirrors$Laws" "size" "I" ∈ gw_tbl := gw_T1 _ (List.mem_of_getElem? (i := 165) rfl) rfl
theorem wd_166 : Cond.fieldLinkNest "LateMirrors$Text" 110 "LateMirrors$Laws" "size" "I" "LateMirrors" ∈ nw_tbl := nw_T1 _ (List.mem_of_getElem? (i := 166) rfl) rfl
theorem wd_167 : Cond.fieldLink "LateMirrors$Laws" 16 "LateMirrors$Laws" "waiting" "[I" ∈ gw_tbl := gw_T1 _ (List.mem_of_getElem? (i := 167) rfl) rfl
theorem wd_168 : Cond.fieldLink "LateMirrors$Laws" 39 "LateMirrors$Laws" "waitingSize" "I" ∈ gw_tbl := gw_T1 _ (List.mem_of_getElem? (i := 168) rfl) rfl
theorem wd_169 : Cond.fieldLink "LateMirrors$Laws" 19 "LateMirrors$Laws" "stack" "[I" ∈ gw_tbl := gw_T1 _ (List.mem_of_getElem? (i := 169) rfl) rfl
theorem wd_170 : Cond.fieldLink "LateMirrors$Laws" 22 "LateMirrors$Laws" "vars" "[I" ∈ gw_tbl := gw_T1 _ (List.mem_of_getElem? (i := 170) rfl) rfl
theorem wd_171 : Cond.laysFinal "LateMirrors$Laws" "LateMirrors$Laws" "codes" "[I" ∈ gw_tbl := gw_T1 _ (List.mem_of_getElem? (i := 171) rfl) rfl
theorem wd_172 : Cond.soleField "LateMirrors$Laws" "codes" ∈ gw_tbl := gw_T1 _ (List.mem_of_getElem? (i := 172) rfl) rfl
theorem wd_173 : Cond.laysFinal "LateMirrors$Laws" "LateMirrors$Laws" "operands" "[I" ∈ gw_tbl := gw_T1 _ (List.mem_of_getElem? (i := 173) rfl) rfl
theorem wd_174 : Cond.soleField "LateMirrors$Laws" "operands" ∈ gw_tbl := gw_T1 _ (List.mem_of_getElem? (i := 174) rfl) rfl
theorem wd_175 : Cond.lays "LateMirrors$Laws" "LateMirrors$Laws" "size" "I" ∈ gw_tbl := gw_T1 _ (List.mem_of_getElem? (i := 175) rfl) rfl
theorem wd_176 : Cond.soleField "LateMirrors$Laws" "size" ∈ gw_tbl := gw_T1 _ (List.mem_of_getElem? (i := 176) rfl) rfl
theorem wd_177 : Cond.laysFinal "LateMirrors$Laws" "LateMirrors$Laws" "waiting" "[I" ∈ gw_tbl := gw_T1 _ (List.mem_of_getElem? (i := 177) rfl) rfl
theorem wd_178 : Cond.soleField "LateMirrors$Laws" "waiting" ∈ gw_tbl := gw_T1 _ (List.mem_of_getElem? (i := 178) rfl) rfl
theorem wd_179 : Cond.lays "LateMirrors$Laws" "LateMirrors$Laws" "waitingSize" "I" ∈ gw_tbl := gw_T1 _ (List.mem_of_getElem? (i := 179) rfl) rfl
theorem wd_180 : Cond.soleField "LateMirrors$Laws" "waitingSize" ∈ gw_tbl := gw_T1 _ (List.mem_of_getElem? (i := 180) rfl) rfl
theorem wd_181 : Cond.laysFinal "LateMirrors$Laws" "LateMirrors$Laws" "stack" "[I" ∈ gw_tbl := gw_T1 _ (List.mem_of_getElem? (i := 181) rfl) rfl
theorem wd_182 : Cond.soleField "LateMirrors$Laws" "stack" ∈ gw_tbl := gw_T1 _ (List.mem_of_getElem? (i := 182) rfl) rfl
theorem wd_183 : Cond.laysFinal "LateMirrors$Laws" "LateMirrors$Laws" "vars" "[I" ∈ gw_tbl := gw_T1 _ (List.mem_of_getElem? (i := 183) rfl) rfl
theorem wd_184 : Cond.soleField "LateMirrors$Laws" "vars" ∈ gw_tbl := gw_T1 _ (List.mem_of_getElem? (i := 184) rfl) rfl
theorem wd_185 : Cond.superclass "LateMirrors$Laws" "java/lang/Object" ∈ gw_tbl := gw_T1 _ (List.mem_of_getElem? (i := 185) rfl) rfl
theorem wd_186 : Cond.methodLink "LateMirrors$Text" 48 yX4_clear ∈ gw_tbl := gw_T1 _ (List.mem_of_getElem? (i := 186) rfl) rfl
theorem wd_187 : Cond.privateMethod yX4_clear ∈ lw_tbl := wd_T1 _ (List.mem_of_getElem? (i := 187) rfl)
theorem wd_188 : Cond.instanceMethod yX4_clear ∈ gw_tbl := gw_T1 _ (List.mem_of_getElem? (i := 188) rfl) rfl
theorem wd_189 : Cond.code yX4_clear prog_6_method_2_code 1 (Option.none : Option Jvm.ClassFile.FieldType) ∈ gw_tbl := gw_T1 _ (List.mem_of_getElem? (i := 189) rfl) rfl
theorem wd_190 : Cond.methodLinkNest "LateMirrors$Text" 78 yX1_clear "LateMirrors" ∈ nw_tbl := nw_T1 _ (List.mem_of_getElem? (i := 190) rfl) rfl
theorem wd_191 : Cond.privateMethod yX1_clear ∈ lw_tbl := wd_T1 _ (List.mem_of_getElem? (i := 191) rfl)
theorem wd_192 : Cond.instanceMethod yX1_clear ∈ gw_tbl := gw_T1 _ (List.mem_of_getElem? (i := 192) rfl) rfl
theorem wd_193 : Cond.code yX1_clear prog_3_method_2_code 1 (Option.none : Option Jvm.ClassFile.FieldType) ∈ gw_tbl := gw_T1 _ (List.mem_of_getElem? (i := 193) rfl) rfl
theorem wd_194 : Cond.methodLink "LateMirrors$Laws" 29 yX1_emit ∈ gw_tbl := gw_T1 _ (List.mem_of_getElem? (i := 194) rfl) rfl
theorem wd_195 : Cond.privateMethod yX1_emit ∈ lw_tbl := wd_T1 _ (List.mem_of_getElem? (i := 195) rfl)
theorem wd_196 : Cond.instanceMethod yX1_emit ∈ gw_tbl := gw_T1 _ (List.mem_of_getElem? (i := 196) rfl) rfl
theorem wd_197 : Cond.code yX1_emit prog_3_method_3_code 3 (Option.none : Option Jvm.ClassFile.FieldType) ∈ gw_tbl := gw_T1 _ (List.mem_of_getElem? (i := 197) rfl) rfl
theorem wd_198 : Cond.methodLinkNest "LateMirrors$Laws" 33 yX5_put "LateMirrors" ∈ nw_tbl := nw_T1 _ (List.mem_of_getElem? (i := 198) rfl) rfl
theorem wd_199 : Cond.static yX5_put ∈ gw_tbl := gw_T1 _ (List.mem_of_getElem? (i := 199) rfl) rfl
theorem wd_200 : Cond.code yX5_put prog_1_method_73_code 3 (Option.none : Option Jvm.ClassFile.FieldType) ∈ gw_tbl := gw_T1 _ (List.mem_of_getElem? (i := 200) rfl) rfl
theorem wd_201 : Cond.fieldLink "LateMirrors$Text" 51 "LateMirrors$Text" "rooms" "I" ∈ gw_tbl := gw_T1 _ (List.mem_of_getElem? (i := 201) rfl) rfl
theorem wd_202 : Cond.fieldLinkNest "LateMirrors" 234 "LateMirrors$Text" "rooms" "I" "LateMirrors" ∈ nw_tbl := nw_T1 _ (List.mem_of_getElem? (i := 202) rfl) rfl
theorem wd_203 : Cond.fieldLink "LateMirrors$Text" 54 "LateMirrors$Text" "doors" "I" ∈ gw_tbl := gw_T1 _ (List.mem_of_getElem? (i := 203) rfl) rfl
theorem wd_204 : Cond.fieldLinkNest "LateMirrors" 287 "LateMirrors$Text" "doors" "I" "LateMirrors" ∈ nw_tbl := nw_T1 _ (List.mem_of_getElem? (i := 204) rfl) rfl
theorem wd_205 : Cond.fieldLink "LateMirrors$Text" 57 "LateMirrors$Text" "men" "I" ∈ gw_tbl := gw_T1 _ (List.mem_of_getElem? (i := 205) rfl) rfl
theorem wd_206 : Cond.fieldLinkNest "LateMirrors$Court" 82 "LateMirrors$Text" "men" "I" "LateMirrors" ∈ nw_tbl := nw_T1 _ (List.mem_of_getElem? (i := 206) rfl) rfl
theorem wd_207 : Cond.fieldLinkNest "LateMirrors" 231 "LateMirrors$Text" "men" "I" "LateMirrors" ∈ nw_tbl := nw_T1 _ (List.mem_of_getElem? (i := 207) rfl) rfl
theorem wd_208 : Cond.fieldLink "LateMirrors$Text" 60 "LateMirrors$Text" "mirrors" "I" ∈ gw_tbl := gw_T1 _ (List.mem_of_getElem? (i := 208) rfl) rfl
theorem wd_209 : Cond.fieldLinkNest "LateMirrors$Court" 76 "LateMirrors$Text" "mirrors" "I" "LateMirrors" ∈ nw_tbl := nw_T1 _ (List.mem_of_getElem? (i := 209) rfl) rfl
theorem wd_210 : Cond.fieldLinkNest "LateMirrors" 206 "LateMirrors$Text" "mirrors" "I" "LateMirrors" ∈ nw_tbl := nw_T1 _ (List.mem_of_getElem? (i := 210) rfl) rfl
theorem wd_211 : Cond.fieldLink "LateMirrors$Text" 63 "LateMirrors$Text" "breaks" "I" ∈ gw_tbl := gw_T1 _ (List.mem_of_getElem? (i := 211) rfl) rfl
theorem wd_212 : Cond.fieldLink "LateMirrors$Text" 66 "LateMirrors$Text" "seed" "I" ∈ gw_tbl := gw_T1 _ (List.mem_of_getElem? (i := 212) rfl) rfl
theorem wd_213 : Cond.fieldLinkNest "LateMirrors$Court" 149 "LateMirrors$Text" "seed" "I" "LateMirrors" ∈ nw_tbl := nw_T1 _ (List.mem_of_getElem? (i := 213) rfl) rfl
theorem wd_214 : Cond.fieldLinkNest "LateMirrors" 270 "LateMirrors$Text" "seed" "I" "LateMirrors" ∈ nw_tbl := nw_T1 _ (List.mem_of_getElem? (i := 214) rfl) rfl
theorem wd_215 : Cond.fieldLink "LateMirrors$Text" 69 "LateMirrors$Text" "late" "I" ∈ gw_tbl := gw_T1 _ (List.mem_of_getElem? (i := 215) rfl) rfl
theorem wd_216 : Cond.fieldLinkNest "LateMirrors$Court" 132 "LateMirrors$Text" "late" "I" "LateMirrors" ∈ nw_tbl := nw_T1 _ (List.mem_of_getElem? (i := 216) rfl) rfl
theorem wd_217 : Cond.fieldLink "LateMirrors$Text" 9 "LateMirrors$Text" "doorEnds" "[I" ∈ gw_tbl := gw_T1 _ (List.mem_of_getElem? (i := 217) rfl) rfl
theorem wd_218 : Cond.fieldLink "LateMirrors$Text" 15 "LateMirrors$Text" "firstRanks" "[I" ∈ gw_tbl := gw_T1 _ (List.mem_of_getElem? (i := 218) rfl) rfl
theorem wd_219 : Cond.fieldLinkNest "LateMirrors$Court" 54 "LateMirrors$Text" "firstRanks" "[I" "LateMirrors" ∈ nw_tbl := nw_T1 _ (List.mem_of_getElem? (i := 219) rfl) rfl
theorem wd_220 : Cond.fieldLink "LateMirrors$Text" 18 "LateMirrors$Text" "firstRooms" "[I" ∈ gw_tbl := gw_T1 _ (List.mem_of_getElem? (i := 220) rfl) rfl
theorem wd_221 : Cond.fieldLinkNest "LateMirrors$Court" 45 "LateMirrors$Text" "firstRooms" "[I" "LateMirrors" ∈ nw_tbl := nw_T1 _ (List.mem_of_getElem? (i := 221) rfl) rfl
theorem wd_222 : Cond.fieldLink "LateMirrors$Text" 21 "LateMirrors$Text" "goings" "[I" ∈ gw_tbl := gw_T1 _ (List.mem_of_getElem? (i := 222) rfl) rfl
theorem wd_223 : Cond.fieldLinkNest "LateMirrors$Court" 166 "LateMirrors$Text" "goings" "[I" "LateMirrors" ∈ nw_tbl := nw_T1 _ (List.mem_of_getElem? (i := 223) rfl) rfl
theorem wd_224 : Cond.fieldLink "LateMirrors$Text" 24 "LateMirrors$Text" "firstHangs" "[I" ∈ gw_tbl := gw_T1 _ (List.mem_of_getElem? (i := 224) rfl) rfl
theorem wd_225 : Cond.fieldLinkNest "LateMirrors$Court" 57 "LateMirrors$Text" "firstHangs" "[I" "LateMirrors" ∈ nw_tbl := nw_T1 _ (List.mem_of_getElem? (i := 225) rfl) rfl
theorem wd_226 : Cond.fieldLink "LateMirrors$Text" 27 "LateMirrors$Text" "owners" "[I" ∈ gw_tbl := gw_T1 _ (List.mem_of_getElem? (i := 226) rfl) rfl
theorem wd_227 : Cond.fieldLink "LateMirrors$Text" 30 "LateMirrors$Text" "names" "[J" ∈ gw_tbl := gw_T1 _ (List.mem_of_getElem? (i := 227) rfl) rfl
theorem wd_228 : Cond.fieldLink "LateMirrors$Text" 34 "LateMirrors$Text" "meanings" "[I" ∈ gw_tbl := gw_T1 _ (List.mem_of_getElem? (i := 228) rfl) rfl
theorem wd_229 : Cond.fieldLink "LateMirrors$Text" 72 "LateMirrors$Text" "nameCount" "I" ∈ gw_tbl := gw_T1 _ (List.mem_of_getElem? (i := 229) rfl) rfl
theorem wd_230 : Cond.fieldLink "LateMirrors$Text" 40 "LateMirrors$Text" "laws" "LLateMirrors$Laws;" ∈ gw_tbl := gw_T1 _ (List.mem_of_getElem? (i := 230) rfl) rfl
theorem wd_231 : Cond.fieldLinkNest "LateMirrors$Court" 119 "LateMirrors$Text" "laws" "LLateMirrors$Laws;" "LateMirrors" ∈ nw_tbl := nw_T1 _ (List.mem_of_getElem? (i := 231) rfl) rfl
theorem wd_232 : Cond.fieldLink "LateMirrors$Text" 75 "LateMirrors$Text" "fault" "I" ∈ gw_tbl := gw_T1 _ (List.mem_of_getElem? (i := 232) rfl) rfl
theorem wd_233 : Cond.fieldLink "LateMirrors$Text" 44 "LateMirrors$Text" "faultAt" "I" ∈ gw_tbl := gw_T1 _ (List.mem_of_getElem? (i := 233) rfl) rfl
theorem wd_234 : Cond.fieldLinkNest "LateMirrors" 89 "LateMirrors$Text" "faultAt" "I" "LateMirrors" ∈ nw_tbl := nw_T1 _ (List.mem_of_getElem? (i := 234) rfl) rfl
theorem wd_235 : Cond.lays "LateMirrors$Text" "LateMirrors$Text" "rooms" "I" ∈ gw_tbl := gw_T1 _ (List.mem_of_getElem? (i := 235) rfl) rfl
theorem wd_236 : Cond.soleField "LateMirrors$Text" "rooms" ∈ gw_tbl := gw_T1 _ (List.mem_of_getElem? (i := 236) rfl) rfl
theorem wd_237 : Cond.lays "LateMirrors$Text" "LateMirrors$Text" "doors" "I" ∈ gw_tbl := gw_T1 _ (List.mem_of_getElem? (i := 237) rfl) rfl
theorem wd_238 : Cond.soleField "LateMirrors$Text" "doors" ∈ gw_tbl := gw_T1 _ (List.mem_of_getElem? (i := 238) rfl) rfl
theorem wd_239 : Cond.lays "LateMirrors$Text" "LateMirrors$Text" "men" "I" ∈ gw_tbl := gw_T1 _ (List.mem_of_getElem? (i := 239) rfl) rfl
theorem wd_240 : Cond.soleField "LateMirrors$Text" "men" ∈ gw_tbl := gw_T2 _ (List.mem_of_getElem? (i := 0) rfl) rfl
theorem wd_241 : Cond.lays "LateMirrors$Text" "LateMirrors$Text" "mirrors" "I" ∈ gw_tbl := gw_T2 _ (List.mem_of_getElem? (i := 1) rfl) rfl
theorem wd_242 : Cond.soleField "LateMirrors$Text" "mirrors" ∈ gw_tbl := gw_T2 _ (List.mem_of_getElem? (i := 2) rfl) rfl
theorem wd_243 : Cond.lays "LateMirrors$Text" "LateMirrors$Text" "breaks" "I" ∈ gw_tbl := gw_T2 _ (List.mem_of_getElem? (i := 3) rfl) rfl
theorem wd_244 : Cond.soleField "LateMirrors$Text" "breaks" ∈ gw_tbl := gw_T2 _ (List.mem_of_getElem? (i := 4) rfl) rfl
theorem wd_245 : Cond.lays "LateMirrors$Text" "LateMirrors$Text" "seed" "I" ∈ gw_tbl := gw_T2 _ (List.mem_of_getElem? (i := 5) rfl) rfl
theorem wd_246 : Cond.soleField "LateMirrors$Text" "seed" ∈ gw_tbl := gw_T2 _ (List.mem_of_getElem? (i := 6) rfl) rfl
theorem wd_247 : Cond.lays "LateMirrors$Text" "LateMirrors$Text" "late" "I" ∈ gw_tbl := gw_T2 _ (List.mem_of_getElem? (i := 7) rfl) rfl
theorem wd_248 : Cond.soleField "LateMirrors$Text" "late" ∈ gw_tbl := gw_T2 _ (List.mem_of_getElem? (i := 8) rfl) rfl
theorem wd_249 : Cond.laysFinal "LateMirrors$Text" "LateMirrors$Text" "doorEnds" "[I" ∈ gw_tbl := gw_T2 _ (List.mem_of_getElem? (i := 9) rfl) rfl
theorem wd_250 : Cond.soleField "LateMirrors$Text" "doorEnds" ∈ gw_tbl := gw_T2 _ (List.mem_of_getElem? (i := 10) rfl) rfl
theorem wd_251 : Cond.laysFinal "LateMirrors$Text" "LateMirrors$Text" "firstRanks" "[I" ∈ gw_tbl := gw_T2 _ (List.mem_of_getElem? (i := 11) rfl) rfl
theorem wd_252 : Cond.soleField "LateMirrors$Text" "firstRanks" ∈ gw_tbl := gw_T2 _ (List.mem_of_getElem? (i := 12) rfl) rfl
theorem wd_253 : Cond.laysFinal "LateMirrors$Text" "LateMirrors$Text" "firstRooms" "[I" ∈ gw_tbl := gw_T2 _ (List.mem_of_getElem? (i := 13) rfl) rfl
theorem wd_254 : Cond.soleField "LateMirrors$Text" "firstRooms" ∈ gw_tbl := gw_T2 _ (List.mem_of_getElem? (i := 14) rfl) rfl
theorem wd_255 : Cond.laysFinal "LateMirrors$Text" "LateMirrors$Text" "goings" "[I" ∈ gw_tbl := gw_T2 _ (List.mem_of_getElem? (i := 15) rfl) rfl
theorem wd_256 : Cond.soleField "LateMirrors$Text" "goings" ∈ gw_tbl := gw_T2 _ (List.mem_of_getElem? (i := 16) rfl) rfl
theorem wd_257 : Cond.laysFinal "LateMirrors$Text" "LateMirrors$Text" "firstHangs" "[I" ∈ gw_tbl := gw_T2 _ (List.mem_of_getElem? (i := 17) rfl) rfl
theorem wd_258 : Cond.soleField "LateMirrors$Text" "firstHangs" ∈ gw_tbl := gw_T2 _ (List.mem_of_getElem? (i := 18) rfl) rfl
theorem wd_259 : Cond.laysFinal "LateMirrors$Text" "LateMirrors$Text" "owners" "[I" ∈ gw_tbl := gw_T2 _ (List.mem_of_getElem? (i := 19) rfl) rfl
theorem wd_260 : Cond.soleField "LateMirrors$Text" "owners" ∈ gw_tbl := gw_T2 _ (List.mem_of_getElem? (i := 20) rfl) rfl
theorem wd_261 : Cond.laysFinal "LateMirrors$Text" "LateMirrors$Text" "names" "[J" ∈ gw_tbl := gw_T2 _ (List.mem_of_getElem? (i := 21) rfl) rfl
theorem wd_262 : Cond.soleField "LateMirrors$Text" "names" ∈ gw_tbl := gw_T2 _ (List.mem_of_getElem? (i := 22) rfl) rfl
theorem wd_263 : Cond.laysFinal "LateMirrors$Text" "LateMirrors$Text" "meanings" "[I" ∈ gw_tbl := gw_T2 _ (List.mem_of_getElem? (i := 23) rfl) rfl
theorem wd_264 : Cond.soleField "LateMirrors$Text" "meanings" ∈ gw_tbl := gw_T2 _ (List.mem_of_getElem? (i := 24) rfl) rfl
theorem wd_265 : Cond.lays "LateMirrors$Text" "LateMirrors$Text" "nameCount" "I" ∈ gw_tbl := gw_T2 _ (List.mem_of_getElem? (i := 25) rfl) rfl
theorem wd_266 : Cond.soleField "LateMirrors$Text" "nameCount" ∈ gw_tbl := gw_T2 _ (List.mem_of_getElem? (i := 26) rfl) rfl
theorem wd_267 : Cond.laysFinal "LateMirrors$Text" "LateMirrors$Text" "laws" "LLateMirrors$Laws;" ∈ gw_tbl := gw_T2 _ (List.mem_of_getElem? (i := 27) rfl) rfl
theorem wd_268 : Cond.soleField "LateMirrors$Text" "laws" ∈ gw_tbl := gw_T2 _ (List.mem_of_getElem? (i := 28) rfl) rfl
theorem wd_269 : Cond.lays "LateMirrors$Text" "LateMirrors$Text" "fault" "I" ∈ gw_tbl := gw_T2 _ (List.mem_of_getElem? (i := 29) rfl) rfl
theorem wd_270 : Cond.soleField "LateMirrors$Text" "fault" ∈ gw_tbl := gw_T2 _ (List.mem_of_getElem? (i := 30) rfl) rfl
theorem wd_271 : Cond.lays "LateMirrors$Text" "LateMirrors$Text" "faultAt" "I" ∈ gw_tbl := gw_T2 _ (List.mem_of_getElem? (i := 31) rfl) rfl
theorem wd_272 : Cond.soleField "LateMirrors$Text" "faultAt" ∈ gw_tbl := gw_T2 _ (List.mem_of_getElem? (i := 32) rfl) rfl
theorem wd_273 : Cond.superclass "LateMirrors$Text" "java/lang/Object" ∈ gw_tbl := gw_T2 _ (List.mem_of_getElem? (i := 33) rfl) rfl
theorem wd_274 : Cond.classLink "LateMirrors" 34 "LateMirrors$Court" ∈ gw_tbl := gw_T2 _ (List.mem_of_getElem? (i := 34) rfl) rfl
theorem wd_275 : Cond.instantiable "LateMirrors$Court" 9 ∈ gw_tbl := gw_T2 _ (List.mem_of_getElem? (i := 35) rfl) rfl
theorem wd_276 : Cond.methodLinkNest "LateMirrors" 36 yX0_init "LateMirrors" ∈ nw_tbl := nw_T2 _ (List.mem_of_getElem? (i := 36) rfl) rfl
theorem wd_277 : Cond.instanceMethod yX0_init ∈ gw_tbl := gw_T2 _ (List.mem_of_getElem? (i := 37) rfl) rfl
theorem wd_278 : Cond.code yX0_init prog_2_method_1_code 2 (Option.none : Option Jvm.ClassFile.FieldType) ∈ gw_tbl := gw_T2 _ (List.mem_of_getElem? (i := 38) rfl) rfl
theorem wd_279 : Cond.methodLink "LateMirrors$Court" 3 (⟨"java/lang/Object", "<init>", "()V"⟩ : MethodName) ∈ gw_tbl := gw_T2 _ (List.mem_of_getElem? (i := 39) rfl) rfl
theorem wd_280 : Cond.methodLink "LateMirrors$Court" 37 yX0_begin ∈ gw_tbl := gw_T2 _ (List.mem_of_getElem? (i := 40) rfl) rfl
theorem wd_281 : Cond.privateMethod yX0_begin ∈ lw_tbl := wd_T2 _ (List.mem_of_getElem? (i := 41) rfl)
theorem wd_282 : Cond.instanceMethod yX0_begin ∈ gw_tbl := gw_T2 _ (List.mem_of_getElem? (i := 42) rfl) rfl
theorem wd_283 : Cond.code yX0_begin prog_2_method_2_code 3 (Option.none : Option Jvm.ClassFile.FieldType) ∈ gw_tbl := gw_T2 _ (List.mem_of_getElem? (i := 43) rfl) rfl
theorem wd_284 : Cond.methodLinkNest "LateMirrors$Court" 50 yX5_copy "LateMirrors" ∈ nw_tbl := nw_T2 _ (List.mem_of_getElem? (i := 44) rfl) rfl
theorem wd_285 : Cond.static yX5_copy ∈ gw_tbl := gw_T2 _ (List.mem_of_getElem? (i := 45) rfl) rfl
theorem wd_286 : Cond.code yX5_copy prog_1_method_75_code 5 (Option.none : Option Jvm.ClassFile.FieldType) ∈ gw_tbl := gw_T2 _ (List.mem_of_getElem? (i := 46) rfl) rfl
theorem wd_287 : Cond.methodLink "LateMirrors" 311 (⟨"java/lang/System", "arraycopy", "(Ljava/lang/Object;ILjava/lang/Object;II)V"⟩ : MethodName) ∈ gw_tbl := gw_T2 _ (List.mem_of_getElem? (i := 47) rfl) rfl
theorem wd_288 : Cond.static (⟨"java/lang/System", "arraycopy", "(Ljava/lang/Object;ILjava/lang/Object;II)V"⟩ : MethodName) ∈ gw_tbl := gw_T2 _ (List.mem_of_getElem? (i := 48) rfl) rfl
theorem wd_289 : Cond.native (⟨"java/lang/System", "arraycopy", "(Ljava/lang/Object;ILjava/lang/Object;II)V"⟩ : MethodName) ∈ gw_tbl := gw_T2 _ (List.mem_of_getElem? (i := 49) rfl) rfl
theorem wd_290 : Cond.methodLinkNest "LateMirrors$Court" 60 yX5_put "LateMirrors" ∈ nw_tbl := nw_T2 _ (List.mem_of_getElem? (i := 50) rfl) rfl
theorem wd_291 : Cond.constant "LateMirrors$Court" 64 (100000 : Int32) ∈ gw_tbl := gw_T2 _ (List.mem_of_getElem? (i := 51) rfl) rfl
theorem wd_292 : Cond.methodLink "LateMirrors$Court" 65 yX0_setLates ∈ gw_tbl := gw_T2 _ (List.mem_of_getElem? (i := 52) rfl) rfl
theorem wd_293 : Cond.privateMethod yX0_setLates ∈ lw_tbl := wd_T2 _ (List.mem_of_getElem? (i := 53) rfl)
theorem wd_294 : Cond.instanceMethod yX0_setLates ∈ gw_tbl := gw_T2 _ (List.mem_of_getElem? (i := 54) rfl) rfl
theorem wd_295 : Cond.code yX0_setLates prog_2_method_26_code 3 (Option.none : Option Jvm.ClassFile.FieldType) ∈ gw_tbl := gw_T2 _ (List.mem_of_getElem? (i := 55) rfl) rfl
theorem wd_296 : Cond.methodLinkNest "LateMirrors$Court" 104 yX4_ownerOf "LateMirrors" ∈ nw_tbl := nw_T2 _ (List.mem_of_getElem? (i := 56) rfl) rfl
theorem wd_297 : Cond.privateMethod yX4_ownerOf ∈ lw_tbl := wd_T2 _ (List.mem_of_getElem? (i := 57) rfl)
theorem wd_298 : Cond.instanceMethod yX4_ownerOf ∈ gw_tbl := gw_T2 _ (List.mem_of_getElem? (i := 58) rfl) rfl
theorem wd_299 : Cond.code yX4_ownerOf prog_6_method_13_code 2 (Option.some Jvm.ClassFile.FieldType.int) ∈ gw_tbl := gw_T2 _ (List.mem_of_getElem? (i := 59) rfl) rfl
theorem wd_300 : Cond.methodLinkNest "LateMirrors$Text" 91 yX5_at "LateMirrors" ∈ nw_tbl := nw_T2 _ (List.mem_of_getElem? (i := 60) rfl) rfl
theorem wd_301 : Cond.static yX5_at ∈ gw_tbl := gw_T2 _ (List.mem_of_getElem? (i := 61) rfl) rfl
theorem wd_302 : Cond.code yX5_at prog_1_method_71_code 2 (Option.some Jvm.ClassFile.FieldType.int) ∈ gw_tbl := gw_T2 _ (List.mem_of_getElem? (i := 62) rfl) rfl
theorem wd_303 : Cond.methodLink "LateMirrors$Court" 108 yX0_rankOf ∈ gw_tbl := gw_T2 _ (List.mem_of_getElem? (i := 63) rfl) rfl
theorem wd_304 : Cond.privateMethod yX0_rankOf ∈ lw_tbl := wd_T2 _ (List.mem_of_getElem? (i := 64) rfl)
theorem wd_305 : Cond.instanceMethod yX0_rankOf ∈ gw_tbl := gw_T2 _ (List.mem_of_getElem? (i := 65) rfl) rfl
theorem wd_306 : Cond.code yX0_rankOf prog_2_method_7_code 3 (Option.some Jvm.ClassFile.FieldType.int) ∈ gw_tbl := gw_T2 _ (List.mem_of_getElem? (i := 66) rfl) rfl
theorem wd_307 : Cond.methodLinkNest "LateMirrors$Court" 68 yX5_at "LateMirrors" ∈ nw_tbl := nw_T2 _ (List.mem_of_getElem? (i := 67) rfl) rfl
theorem wd_308 : Cond.methodLink "LateMirrors$Court" 111 yX0_lateWith ∈ gw_tbl := gw_T2 _ (List.mem_of_getElem? (i := 68) rfl) rfl
theorem wd_309 : Cond.privateMethod yX0_lateWith ∈ lw_tbl := wd_T2 _ (List.mem_of_getElem? (i := 69) rfl)
theorem wd_310 : Cond.instanceMethod yX0_lateWith ∈ gw_tbl := gw_T2 _ (List.mem_of_getElem? (i := 70) rfl) rfl
theorem wd_311 : Cond.code yX0_lateWith prog_2_method_27_code 6 (Option.some Jvm.ClassFile.FieldType.int) ∈ gw_tbl := gw_T2 _ (List.mem_of_getElem? (i := 71) rfl) rfl
theorem wd_312 : Cond.methodLink "LateMirrors$Court" 95 yX0_hangOf ∈ gw_tbl := gw_T2 _ (List.mem_of_getElem? (i := 72) rfl) rfl
theorem wd_313 : Cond.privateMethod yX0_hangOf ∈ lw_tbl := wd_T2 _ (List.mem_of_getElem? (i := 73) rfl)
theorem wd_314 : Cond.instanceMethod yX0_hangOf ∈ gw_tbl := gw_T2 _ (List.mem_of_getElem? (i := 74) rfl) rfl
theorem wd_315 : Cond.code yX0_hangOf prog_2_method_8_code 3 (Option.some Jvm.ClassFile.FieldType.int) ∈ gw_tbl := gw_T2 _ (List.mem_of_getElem? (i := 75) rfl) rfl
theorem wd_316 : Cond.methodLink "LateMirrors$Court" 98 yX0_menIn ∈ gw_tbl := gw_T2 _ (List.mem_of_getElem? (i := 76) rfl) rfl
theorem wd_317 : Cond.privateMethod yX0_menIn ∈ lw_tbl := wd_T2 _ (List.mem_of_getElem? (i := 77) rfl)
theorem wd_318 : Cond.instanceMethod yX0_menIn ∈ gw_tbl := gw_T2 _ (List.mem_of_getElem? (i := 78) rfl) rfl
theorem wd_319 : Cond.code yX0_menIn prog_2_method_14_code 5 (Option.some Jvm.ClassFile.FieldType.int) ∈ gw_tbl := gw_T2 _ (List.mem_of_getElem? (i := 79) rfl) rfl
theorem wd_320 : Cond.methodLink "LateMirrors$Court" 114 yJ6_bitCount_0f7a4 ∈ gw_tbl := gw_T2 _ (List.mem_of_getElem? (i := 80) rfl) rfl
theorem wd_321 : Cond.static yJ6_bitCount_0f7a4 ∈ gw_tbl := gw_T2 _ (List.mem_of_getElem? (i := 81) rfl) rfl
theorem wd_322 : Cond.code yJ6_bitCount_0f7a4 prog_10_method_49_code 1 (Option.some Jvm.ClassFile.FieldType.int) ∈ gw_tbl := gw_T2 _ (List.mem_of_getElem? (i := 82) rfl) rfl
theorem wd_323 : Cond.constant "java/lang/Integer" 265 (1431655765 : Int32) ∈ gw_tbl := gw_T2 _ (List.mem_of_getElem? (i := 83) rfl) rfl
theorem wd_324 : Cond.constant "java/lang/Integer" 266 (858993459 : Int32) ∈ gw_tbl := gw_T2 _ (List.mem_of_getElem? (i := 84) rfl) rfl
theorem wd_325 : Cond.constant "java/lang/Integer" 267 (252645135 : Int32) ∈ gw_tbl := gw_T2 _ (List.mem_of_getElem? (i := 85) rfl) rfl
theorem wd_326 : Cond.methodLinkNest "LateMirrors$Court" 123 yX4_waysOf "LateMirrors" ∈ nw_tbl := nw_T2 _ (List.mem_of_getElem? (i := 86) rfl) rfl
theorem wd_327 : Cond.privateMethod yX4_waysOf ∈ lw_tbl := wd_T2 _ (List.mem_of_getElem? (i := 87) rfl)
theorem wd_328 : Cond.instanceMethod yX4_waysOf ∈ gw_tbl := gw_T2 _ (List.mem_of_getElem? (i := 88) rfl) rfl
theorem wd_329 : Cond.code yX4_waysOf prog_6_method_15_code 4 (Option.some Jvm.ClassFile.FieldType.int) ∈ gw_tbl := gw_T2 _ (List.mem_of_getElem? (i := 89) rfl) rfl
theorem wd_330 : Cond.methodLinkNest "LateMirrors$Court" 126 yX1_setVars "LateMirrors" ∈ nw_tbl := nw_T2 _ (List.mem_of_getElem? (i := 90) rfl) rfl
theorem wd_331 : Cond.privateMethod yX1_setVars ∈ lw_tbl := wd_T2 _ (List.mem_of_getElem? (i := 91) rfl)
theorem wd_332 : Cond.instanceMethod yX1_setVars ∈ gw_tbl := gw_T2 _ (List.mem_of_getElem? (i := 92) rfl) rfl
theorem wd_333 : Cond.code yX1_setVars prog_3_method_10_code 7 (Option.none : Option Jvm.ClassFile.FieldType) ∈ gw_tbl := gw_T2 _ (List.mem_of_getElem? (i := 93) rfl) rfl
theorem wd_334 : Cond.methodLinkNest "LateMirrors$Court" 135 yX1_valueOf "LateMirrors" ∈ nw_tbl := nw_T2 _ (List.mem_of_getElem? (i := 94) rfl) rfl
theorem wd_335 : Cond.privateMethod yX1_valueOf ∈ lw_tbl := wd_T2 _ (List.mem_of_getElem? (i := 95) rfl)
theorem wd_336 : Cond.instanceMethod yX1_valueOf ∈ gw_tbl := gw_T2 _ (List.mem_of_getElem? (i := 96) rfl) rfl
theorem wd_337 : Cond.code yX1_valueOf prog_3_method_11_code 8 (Option.some Jvm.ClassFile.FieldType.int) ∈ gw_tbl := gw_T2 _ (List.mem_of_getElem? (i := 97) rfl) rfl
theorem wd_338 : Cond.methodLinkNest "LateMirrors$Laws" 48 yX5_at "LateMirrors" ∈ nw_tbl := nw_T2 _ (List.mem_of_getElem? (i := 98) rfl) rfl
theorem wd_339 : Cond.methodLink "LateMirrors$Laws" 79 yJ9_max_7cf53 ∈ gw_tbl := gw_T2 _ (List.mem_of_getElem? (i := 99) rfl) rfl
theorem wd_340 : Cond.methodLink "LateMirrors$Laws" 84 yX1_reckon ∈ gw_tbl := gw_T2 _ (List.mem_of_getElem? (i := 100) rfl) rfl
theorem wd_341 : Cond.static yX1_reckon ∈ gw_tbl := gw_T2 _ (List.mem_of_getElem? (i := 101) rfl) rfl
theorem wd_342 : Cond.code yX1_reckon prog_3_method_12_code 3 (Option.some Jvm.ClassFile.FieldType.int) ∈ gw_tbl := gw_T2 _ (List.mem_of_getElem? (i := 102) rfl) rfl
theorem wd_343 : Cond.methodLink "LateMirrors$Court" 138 yJ9_min_7cf53 ∈ gw_tbl := gw_T2 _ (List.mem_of_getElem? (i := 103) rfl) rfl
theorem wd_344 : Cond.static yJ9_min_7cf53 ∈ gw_tbl := gw_T2 _ (List.mem_of_getElem? (i := 104) rfl) rfl
theorem wd_345 : Cond.code yJ9_min_7cf53 prog_11_method_69_code 2 (Option.some Jvm.ClassFile.FieldType.int) ∈ gw_tbl := gw_T2 _ (List.mem_of_getElem? (i := 105) rfl) rfl
theorem wd_346 : Cond.methodLink "LateMirrors$Court" 143 yJ9_max_7cf53 ∈ gw_tbl := gw_T2 _ (List.mem_of_getElem? (i := 106) rfl) rfl
theorem wd_347 : Cond.fieldLink "LateMirrors$Court" 33 "LateMirrors$Court" "text" "LLateMirrors$Text;" ∈ gw_tbl := gw_T2 _ (List.mem_of_getElem? (i := 107) rfl) rfl
theorem wd_348 : Cond.fieldLink "LateMirrors$Court" 41 "LateMirrors$Court" "minute" "I" ∈ gw_tbl := gw_T2 _ (List.mem_of_getElem? (i := 108) rfl) rfl
theorem wd_349 : Cond.fieldLinkNest "LateMirrors" 147 "LateMirrors$Court" "minute" "I" "LateMirrors" ∈ nw_tbl := nw_T2 _ (List.mem_of_getElem? (i := 109) rfl) rfl
theorem wd_350 : Cond.fieldLink "LateMirrors$Court" 9 "LateMirrors$Court" "rooms" "[I" ∈ gw_tbl := gw_T2 _ (List.mem_of_getElem? (i := 110) rfl) rfl
theorem wd_351 : Cond.fieldLink "LateMirrors$Court" 15 "LateMirrors$Court" "ranks" "[I" ∈ gw_tbl := gw_T2 _ (List.mem_of_getElem? (i := 111) rfl) rfl
theorem wd_352 : Cond.fieldLink "LateMirrors$Court" 18 "LateMirrors$Court" "hangs" "[I" ∈ gw_tbl := gw_T2 _ (List.mem_of_getElem? (i := 112) rfl) rfl
theorem wd_353 : Cond.fieldLink "LateMirrors$Court" 21 "LateMirrors$Court" "lates" "[I" ∈ gw_tbl := gw_T2 _ (List.mem_of_getElem? (i := 113) rfl) rfl
theorem wd_354 : Cond.fieldLink "LateMirrors$Court" 24 "LateMirrors$Court" "walls" "[I" ∈ gw_tbl := gw_T2 _ (List.mem_of_getElem? (i := 114) rfl) rfl
theorem wd_355 : Cond.fieldLink "LateMirrors$Court" 27 "LateMirrors$Court" "brokenAt" "[I" ∈ gw_tbl := gw_T2 _ (List.mem_of_getElem? (i := 115) rfl) rfl
theorem wd_356 : Cond.fieldLink "LateMirrors$Court" 30 "LateMirrors$Court" "frozen" "[I" ∈ gw_tbl := gw_T2 _ (List.mem_of_getElem? (i := 116) rfl) rfl
theorem wd_357 : Cond.lays "LateMirrors$Court" "LateMirrors$Court" "text" "LLateMirrors$Text;" ∈ gw_tbl := gw_T2 _ (List.mem_of_getElem? (i := 117) rfl) rfl
theorem wd_358 : Cond.soleField "LateMirrors$Court" "text" ∈ gw_tbl := gw_T2 _ (List.mem_of_getElem? (i := 118) rfl) rfl
theorem wd_359 : Cond.lays "LateMirrors$Court" "LateMirrors$Court" "minute" "I" ∈ gw_tbl := gw_T2 _ (List.mem_of_getElem? (i := 119) rfl) rfl
theorem wd_360 : Cond.soleField "LateMirrors$Court" "minute" ∈ gw_tbl := gw_T2 _ (List.mem_of_getElem? (i := 120) rfl) rfl
theorem wd_361 : Cond.laysFinal "LateMirrors$Court" "LateMirrors$Court" "rooms" "[I" ∈ gw_tbl := gw_T2 _ (List.mem_of_getElem? (i := 121) rfl) rfl
theorem wd_362 : Cond.soleField "LateMirrors$Court" "rooms" ∈ gw_tbl := gw_T2 _ (List.mem_of_getElem? (i := 122) rfl) rfl
theorem wd_363 : Cond.laysFinal "LateMirrors$Court" "LateMirrors$Court" "ranks" "[I" ∈ gw_tbl := gw_T2 _ (List.mem_of_getElem? (i := 123) rfl) rfl
theorem wd_364 : Cond.soleField "LateMirrors$Court" "ranks" ∈ gw_tbl := gw_T2 _ (List.mem_of_getElem? (i := 124) rfl) rfl
theorem wd_365 : Cond.laysFinal "LateMirrors$Court" "LateMirrors$Court" "hangs" "[I" ∈ gw_tbl := gw_T2 _ (List.mem_of_getElem? (i := 125) rfl) rfl
theorem wd_366 : Cond.soleField "LateMirrors$Court" "hangs" ∈ gw_tbl := gw_T2 _ (List.mem_of_getElem? (i := 126) rfl) rfl
theorem wd_367 : Cond.laysFinal "LateMirrors$Court" "LateMirrors$Court" "lates" "[I" ∈ gw_tbl := gw_T2 _ (List.mem_of_getElem? (i := 127) rfl) rfl
theorem wd_368 : Cond.soleField "LateMirrors$Court" "lates" ∈ gw_tbl := gw_T2 _ (List.mem_of_getElem? (i := 128) rfl) rfl
theorem wd_369 : Cond.laysFinal "LateMirrors$Court" "LateMirrors$Court" "walls" "[I" ∈ gw_tbl := gw_T2 _ (List.mem_of_getElem? (i := 129) rfl) rfl
theorem wd_370 : Cond.soleField "LateMirrors$Court" "walls" ∈ gw_tbl := gw_T2 _ (List.mem_of_getElem? (i := 130) rfl) rfl
theorem wd_371 : Cond.laysFinal "LateMirrors$Court" "LateMirrors$Court" "brokenAt" "[I" ∈ gw_tbl := gw_T2 _ (List.mem_of_getElem? (i := 131) rfl) rfl
theorem wd_372 : Cond.soleField "LateMirrors$Court" "brokenAt" ∈ gw_tbl := gw_T2 _ (List.mem_of_getElem? (i := 132) rfl) rfl
theorem wd_373 : Cond.laysFinal "LateMirrors$Court" "LateMirrors$Court" "frozen" "[I" ∈ gw_tbl := gw_T2 _ (List.mem_of_getElem? (i := 133) rfl) rfl
theorem wd_374 : Cond.soleField "LateMirrors$Court" "frozen" ∈ gw_tbl := gw_T2 _ (List.mem_of_getElem? (i := 134) rfl) rfl
theorem wd_375 : Cond.superclass "LateMirrors$Court" "java/lang/Object" ∈ gw_tbl := gw_T2 _ (List.mem_of_getElem? (i := 135) rfl) rfl
theorem wd_376 : Cond.classLink "LateMirrors" 46 "LateMirrors$Past" ∈ gw_tbl := gw_T2 _ (List.mem_of_getElem? (i := 136) rfl) rfl
theorem wd_377 : Cond.instantiable "LateMirrors$Past" 3 ∈ gw_tbl := gw_T2 _ (List.mem_of_getElem? (i := 137) rfl) rfl
theorem wd_378 : Cond.methodLinkNest "LateMirrors" 48 yX2_init "LateMirrors" ∈ nw_tbl := nw_T2 _ (List.mem_of_getElem? (i := 138) rfl) rfl
theorem wd_379 : Cond.instanceMethod yX2_init ∈ gw_tbl := gw_T2 _ (List.mem_of_getElem? (i := 139) rfl) rfl
theorem wd_380 : Cond.code yX2_init prog_4_method_1_code 1 (Option.none : Option Jvm.ClassFile.FieldType) ∈ gw_tbl := gw_T2 _ (List.mem_of_getElem? (i := 140) rfl) rfl
theorem wd_381 : Cond.methodLink "LateMirrors$Past" 3 (⟨"java/lang/Object", "<init>", "()V"⟩ : MethodName) ∈ gw_tbl := gw_T2 _ (List.mem_of_getElem? (i := 141) rfl) rfl
theorem wd_382 : Cond.fieldLink "LateMirrors$Past" 11 "LateMirrors$Past" "kept" "[I" ∈ gw_tbl := gw_T2 _ (List.mem_of_getElem? (i := 142) rfl) rfl
theorem wd_383 : Cond.fieldLink "LateMirrors$Past" 21 "LateMirrors$Past" "first" "I" ∈ gw_tbl := gw_T2 _ (List.mem_of_getElem? (i := 143) rfl) rfl
theorem wd_384 : Cond.fieldLink "LateMirrors$Past" 17 "LateMirrors$Past" "size" "I" ∈ gw_tbl := gw_T2 _ (List.mem_of_getElem? (i := 144) rfl) rfl
theorem wd_385 : Cond.fieldLinkNest "LateMirrors" 308 "LateMirrors$Past" "size" "I" "LateMirrors" ∈ nw_tbl := nw_T2 _ (List.mem_of_getElem? (i := 145) rfl) rfl
theorem wd_386 : Cond.laysFinal "LateMirrors$Past" "LateMirrors$Past" "kept" "[I" ∈ gw_tbl := gw_T2 _ (List.mem_of_getElem? (i := 146) rfl) rfl
theorem wd_387 : Cond.soleField "LateMirrors$Past" "kept" ∈ gw_tbl := gw_T2 _ (List.mem_of_getElem? (i := 147) rfl) rfl
theorem wd_388 : Cond.lays "LateMirrors$Past" "LateMirrors$Past" "first" "I" ∈ gw_tbl := gw_T2 _ (List.mem_of_getElem? (i := 148) rfl) rfl
theorem wd_389 : Cond.soleField "LateMirrors$Past" "first" ∈ gw_tbl := gw_T2 _ (List.mem_of_getElem? (i := 149) rfl) rfl
theorem wd_390 : Cond.lays "LateMirrors$Past" "LateMirrors$Past" "size" "I" ∈ gw_tbl := gw_T2 _ (List.mem_of_getElem? (i := 150) rfl) rfl
theorem wd_391 : Cond.soleField "LateMirrors$Past" "size" ∈ gw_tbl := gw_T2 _ (List.mem_of_getElem? (i := 151) rfl) rfl
theorem wd_392 : Cond.superclass "LateMirrors$Past" "java/lang/Object" ∈ gw_tbl := gw_T2 _ (List.mem_of_getElem? (i := 152) rfl) rfl
theorem wd_393 : Cond.arrayOver (Jvm.ClassFile.FieldType.object "LateMirrors$Court") ∈ lw_tbl := wd_T2 _ (List.mem_of_getElem? (i := 153) rfl)
theorem wd_394 : Cond.fieldLink "LateMirrors" 9 "LateMirrors" "tape" "[I" ∈ gw_tbl := gw_T2 _ (List.mem_of_getElem? (i := 154) rfl) rfl
theorem wd_395 : Cond.fieldLink "LateMirrors" 69 "LateMirrors" "tapeSize" "I" ∈ gw_tbl := gw_T2 _ (List.mem_of_getElem? (i := 155) rfl) rfl
theorem wd_396 : Cond.fieldLink "LateMirrors" 13 "LateMirrors" "faultAt" "I" ∈ gw_tbl := gw_T2 _ (List.mem_of_getElem? (i := 156) rfl) rfl
theorem wd_397 : Cond.fieldLink "LateMirrors" 20 "LateMirrors" "scanner" "LLateMirrors$Scanner;" ∈ gw_tbl := gw_T2 _ (List.mem_of_getElem? (i := 157) rfl) rfl
theorem wd_398 : Cond.fieldLink "LateMirrors" 27 "LateMirrors" "text" "LLateMirrors$Text;" ∈ gw_tbl := gw_T2 _ (List.mem_of_getElem? (i := 158) rfl) rfl
theorem wd_399 : Cond.fieldLink "LateMirrors" 31 "LateMirrors" "spare" "LLateMirrors$Text;" ∈ gw_tbl := gw_T2 _ (List.mem_of_getElem? (i := 159) rfl) rfl
theorem wd_400 : Cond.fieldLink "LateMirrors" 39 "LateMirrors" "court" "LLateMirrors$Court;" ∈ gw_tbl := gw_T2 _ (List.mem_of_getElem? (i := 160) rfl) rfl
theorem wd_401 : Cond.fieldLink "LateMirrors" 43 "LateMirrors" "maybe" "LLateMirrors$Court;" ∈ gw_tbl := gw_T2 _ (List.mem_of_getElem? (i := 161) rfl) rfl
theorem wd_402 : Cond.fieldLink "LateMirrors" 49 "LateMirrors" "past" "LLateMirrors$Past;" ∈ gw_tbl := gw_T2 _ (List.mem_of_getElem? (i := 162) rfl) rfl
theorem wd_403 : Cond.fieldLink "LateMirrors" 53 "LateMirrors" "slots" "[LLateMirrors$Court;" ∈ gw_tbl := gw_T2 _ (List.mem_of_getElem? (i := 163) rfl) rfl
theorem wd_404 : Cond.fieldLink "LateMirrors" 99 "LateMirrors" "held" "I" ∈ gw_tbl := gw_T2 _ (List.mem_of_getElem? (i := 164) rfl) rfl
theorem wd_405 : Cond.fieldLink "LateMirrors" 57 "LateMirrors" "known" "[I" ∈ gw_tbl := gw_T2 _ (List.mem_of_getElem? (i := 165) rfl) rfl
theorem wd_406 : Cond.fieldLink "LateMirrors" 102 "LateMirrors" "knownSize" "I" ∈ gw_tbl := gw_T2 _ (List.mem_of_getElem? (i := 166) rfl) rfl
theorem wd_407 : Cond.fieldLink "LateMirrors" 60 "LateMirrors" "steps" "[I" ∈ gw_tbl := gw_T2 _ (List.mem_of_getElem? (i := 167) rfl) rfl
theorem wd_408 : Cond.fieldLink "LateMirrors" 63 "LateMirrors" "worths" "[I" ∈ gw_tbl := gw_T2 _ (List.mem_of_getElem? (i := 168) rfl) rfl
theorem wd_409 : Cond.fieldLink "LateMirrors" 66 "LateMirrors" "tally" "[I" ∈ gw_tbl := gw_T2 _ (List.mem_of_getElem? (i := 169) rfl) rfl
theorem wd_410 : Cond.laysFinal "LateMirrors" "LateMirrors" "tape" "[I" ∈ gw_tbl := gw_T2 _ (List.mem_of_getElem? (i := 170) rfl) rfl
theorem wd_411 : Cond.soleField "LateMirrors" "tape" ∈ gw_tbl := gw_T2 _ (List.mem_of_getElem? (i := 171) rfl) rfl
theorem wd_412 : Cond.lays "LateMirrors" "LateMirrors" "tapeSize" "I" ∈ gw_tbl := gw_T2 _ (List.mem_of_getElem? (i := 172) rfl) rfl
theorem wd_413 : Cond.soleField "LateMirrors" "tapeSize" ∈ gw_tbl := gw_T2 _ (List.mem_of_getElem? (i := 173) rfl) rfl
theorem wd_414 : Cond.lays "LateMirrors" "LateMirrors" "faultAt" "I" ∈ gw_tbl := gw_T2 _ (List.mem_of_getElem? (i := 174) rfl) rfl
theorem wd_415 : Cond.soleField "LateMirrors" "faultAt" ∈ gw_tbl := gw_T2 _ (List.mem_of_getElem? (i := 175) rfl) rfl
theorem wd_416 : Cond.laysFinal "LateMirrors" "LateMirrors" "scanner" "LLateMirrors$Scanner;" ∈ gw_tbl := gw_T2 _ (List.mem_of_getElem? (i := 176) rfl) rfl
theorem wd_417 : Cond.soleField "LateMirrors" "scanner" ∈ gw_tbl := gw_T2 _ (List.mem_of_getElem? (i := 177) rfl) rfl
theorem wd_418 : Cond.lays "LateMirrors" "LateMirrors" "text" "LLateMirrors$Text;" ∈ gw_tbl := gw_T2 _ (List.mem_of_getElem? (i := 178) rfl) rfl
theorem wd_419 : Cond.soleField "LateMirrors" "text" ∈ gw_tbl := gw_T2 _ (List.mem_of_getElem? (i := 179) rfl) rfl
theorem wd_420 : Cond.lays "LateMirrors" "LateMirrors" "spare" "LLateMirrors$Text;" ∈ gw_tbl := gw_T2 _ (List.mem_of_getElem? (i := 180) rfl) rfl
theorem wd_421 : Cond.soleField "LateMirrors" "spare" ∈ gw_tbl := gw_T2 _ (List.mem_of_getElem? (i := 181) rfl) rfl
theorem wd_422 : Cond.laysFinal "LateMirrors" "LateMirrors" "court" "LLateMirrors$Court;" ∈ gw_tbl := gw_T2 _ (List.mem_of_getElem? (i := 182) rfl) rfl
theorem wd_423 : Cond.soleField "LateMirrors" "court" ∈ gw_tbl := gw_T2 _ (List.mem_of_getElem? (i := 183) rfl) rfl
theorem wd_424 : Cond.laysFinal "LateMirrors" "LateMirrors" "maybe" "LLateMirrors$Court;" ∈ gw_tbl := gw_T2 _ (List.mem_of_getElem? (i := 184) rfl) rfl
theorem wd_425 : Cond.soleField "LateMirrors" "maybe" ∈ gw_tbl := gw_T2 _ (List.mem_of_getElem? (i := 185) rfl) rfl
theorem wd_426 : Cond.laysFinal "LateMirrors" "LateMirrors" "past" "LLateMirrors$Past;" ∈ gw_tbl := gw_T2 _ (List.mem_of_getElem? (i := 186) rfl) rfl
theorem wd_427 : Cond.soleField "LateMirrors" "past" ∈ gw_tbl := gw_T2 _ (List.mem_of_getElem? (i := 187) rfl) rfl
theorem wd_428 : Cond.laysFinal "LateMirrors" "LateMirrors" "slots" "[LLateMirrors$Court;" ∈ gw_tbl := gw_T2 _ (List.mem_of_getElem? (i := 188) rfl) rfl
theorem wd_429 : Cond.soleField "LateMirrors" "slots" ∈ gw_tbl := gw_T2 _ (List.mem_of_getElem? (i := 189) rfl) rfl
theorem wd_430 : Cond.lays "LateMirrors" "LateMirrors" "held" "I" ∈ gw_tbl := gw_T2 _ (List.mem_of_getElem? (i := 190) rfl) rfl
theorem wd_431 : Cond.soleField "LateMirrors" "held" ∈ gw_tbl := gw_T2 _ (List.mem_of_getElem? (i := 191) rfl) rfl
theorem wd_432 : Cond.laysFinal "LateMirrors" "LateMirrors" "known" "[I" ∈ gw_tbl := gw_T2 _ (List.mem_of_getElem? (i := 192) rfl) rfl
theorem wd_433 : Cond.soleField "LateMirrors" "known" ∈ gw_tbl := gw_T2 _ (List.mem_of_getElem? (i := 193) rfl) rfl
theorem wd_434 : Cond.lays "LateMirrors" "LateMirrors" "knownSize" "I" ∈ gw_tbl := gw_T2 _ (List.mem_of_getElem? (i := 194) rfl) rfl
theorem wd_435 : Cond.soleField "LateMirrors" "knownSize" ∈ gw_tbl := gw_T2 _ (List.mem_of_getElem? (i := 195) rfl) rfl
theorem wd_436 : Cond.laysFinal "LateMirrors" "LateMirrors" "steps" "[I" ∈ gw_tbl := gw_T2 _ (List.mem_of_getElem? (i := 196) rfl) rfl
theorem wd_437 : Cond.soleField "LateMirrors" "steps" ∈ gw_tbl := gw_T2 _ (List.mem_of_getElem? (i := 197) rfl) rfl
theorem wd_438 : Cond.laysFinal "LateMirrors" "LateMirrors" "worths" "[I" ∈ gw_tbl := gw_T2 _ (List.mem_of_getElem? (i := 198) rfl) rfl
theorem wd_439 : Cond.soleField "LateMirrors" "worths" ∈ gw_tbl := gw_T2 _ (List.mem_of_getElem? (i := 199) rfl) rfl
theorem wd_440 : Cond.laysFinal "LateMirrors" "LateMirrors" "tally" "[I" ∈ gw_tbl := gw_T2 _ (List.mem_of_getElem? (i := 200) rfl) rfl
theorem wd_441 : Cond.soleField "LateMirrors" "tally" ∈ gw_tbl := gw_T2 _ (List.mem_of_getElem? (i := 201) rfl) rfl
theorem wd_442 : Cond.superclass "LateMirrors" "java/lang/Object" ∈ gw_tbl := gw_T2 _ (List.mem_of_getElem? (i := 202) rfl) rfl
theorem wd_443 : Cond.methodLink "LateMirrorsLaw" 13 yX5_feed ∈ gw_tbl := gw_T2 _ (List.mem_of_getElem? (i := 203) rfl) rfl
theorem wd_444 : Cond.instanceMethod yX5_feed ∈ gw_tbl := gw_T2 _ (List.mem_of_getElem? (i := 204) rfl) rfl
theorem wd_445 : Cond.selects "LateMirrors" yX5_feed yX5_feed ∈ gw_tbl := gw_T2 _ (List.mem_of_getElem? (i := 205) rfl) rfl
theorem wd_446 : Cond.code yX5_feed prog_1_method_2_code 6 (Option.some Jvm.ClassFile.FieldType.int) ∈ gw_tbl := gw_T2 _ (List.mem_of_getElem? (i := 206) rfl) rfl
theorem wd_447 : Cond.methodLink "LateMirrors" 72 yX5_addBytes ∈ gw_tbl := gw_T2 _ (List.mem_of_getElem? (i := 207) rfl) rfl
theorem wd_448 : Cond.privateMethod yX5_addBytes ∈ lw_tbl := wd_T2 _ (List.mem_of_getElem? (i := 208) rfl)
theorem wd_449 : Cond.instanceMethod yX5_addBytes ∈ gw_tbl := gw_T2 _ (List.mem_of_getElem? (i := 209) rfl) rfl
theorem wd_450 : Cond.code yX5_addBytes prog_1_method_3_code 3 (Option.none : Option Jvm.ClassFile.FieldType) ∈ gw_tbl := gw_T2 _ (List.mem_of_getElem? (i := 210) rfl) rfl
theorem wd_451 : Cond.methodLink "LateMirrors" 76 yX5_put ∈ gw_tbl := gw_T2 _ (List.mem_of_getElem? (i := 211) rfl) rfl
theorem wd_452 : Cond.methodLink "LateMirrorsLaw" 18 yX5_back ∈ gw_tbl := gw_T2 _ (List.mem_of_getElem? (i := 212) rfl) rfl
theorem wd_453 : Cond.instanceMethod yX5_back ∈ gw_tbl := gw_T2 _ (List.mem_of_getElem? (i := 213) rfl) rfl
theorem wd_454 : Cond.selects "LateMirrors" yX5_back yX5_back ∈ gw_tbl := gw_T2 _ (List.mem_of_getElem? (i := 214) rfl) rfl
theorem wd_455 : Cond.code yX5_back prog_1_method_4_code 2 (Option.some Jvm.ClassFile.FieldType.int) ∈ gw_tbl := gw_T2 _ (List.mem_of_getElem? (i := 215) rfl) rfl
theorem wd_456 : Cond.methodLink "LateMirrorsLaw" 23 yX5_read ∈ gw_tbl := gw_T2 _ (List.mem_of_getElem? (i := 216) rfl) rfl
theorem wd_457 : Cond.instanceMethod yX5_read ∈ gw_tbl := gw_T2 _ (List.mem_of_getElem? (i := 217) rfl) rfl
theorem wd_458 : Cond.selects "LateMirrors" yX5_read yX5_read ∈ gw_tbl := gw_T2 _ (List.mem_of_getElem? (i := 218) rfl) rfl
theorem wd_459 : Cond.code yX5_read prog_1_method_5_code 2 (Option.some Jvm.ClassFile.FieldType.int) ∈ gw_tbl := gw_T2 _ (List.mem_of_getElem? (i := 219) rfl) rfl
theorem wd_460 : Cond.methodLinkNest "LateMirrors" 80 yX3_scan "LateMirrors" ∈ nw_tbl := nw_T2 _ (List.mem_of_getElem? (i := 220) rfl) rfl
theorem wd_461 : Cond.privateMethod yX3_scan ∈ lw_tbl := wd_T2 _ (List.mem_of_getElem? (i := 221) rfl)
theorem wd_462 : Cond.instanceMethod yX3_scan ∈ gw_tbl := gw_T2 _ (List.mem_of_getElem? (i := 222) rfl) rfl
theorem wd_463 : Cond.code yX3_scan prog_5_method_4_code 7 (Option.some Jvm.ClassFile.FieldType.int) ∈ gw_tbl := gw_T2 _ (List.mem_of_getElem? (i := 223) rfl) rfl
theorem wd_464 : Cond.methodLink "LateMirrors$Scanner" 67 yX3_clear ∈ gw_tbl := gw_T2 _ (List.mem_of_getElem? (i := 224) rfl) rfl
theorem wd_465 : Cond.privateMethod yX3_clear ∈ lw_tbl := wd_T2 _ (List.mem_of_getElem? (i := 225) rfl)
theorem wd_466 : Cond.instanceMethod yX3_clear ∈ gw_tbl := gw_T2 _ (List.mem_of_getElem? (i := 226) rfl) rfl
theorem wd_467 : Cond.code yX3_clear prog_5_method_5_code 2 (Option.none : Option Jvm.ClassFile.FieldType) ∈ gw_tbl := gw_T2 _ (List.mem_of_getElem? (i := 227) rfl) rfl
theorem wd_468 : Cond.methodLinkNest "LateMirrors$Scanner" 101 yX5_put "LateMirrors" ∈ nw_tbl := nw_T2 _ (List.mem_of_getElem? (i := 228) rfl) rfl
theorem wd_469 : Cond.methodLink "LateMirrors$Scanner" 70 yX3_nextByte ∈ gw_tbl := gw_T2 _ (List.mem_of_getElem? (i := 229) rfl) rfl
theorem wd_470 : Cond.static yX3_nextByte ∈ gw_tbl := gw_T2 _ (List.mem_of_getElem? (i := 230) rfl) rfl
theorem wd_471 : Cond.code yX3_nextByte prog_5_method_8_code 4 (Option.some Jvm.ClassFile.FieldType.int) ∈ gw_tbl := gw_T2 _ (List.mem_of_getElem? (i := 231) rfl) rfl
theorem wd_472 : Cond.methodLinkNest "LateMirrors$Scanner" 109 yX5_at "LateMirrors" ∈ nw_tbl := nw_T2 _ (List.mem_of_getElem? (i := 232) rfl) rfl
theorem wd_473 : Cond.methodLink "LateMirrors$Scanner" 113 yX3_isBlank ∈ gw_tbl := gw_T2 _ (List.mem_of_getElem? (i := 233) rfl) rfl
theorem wd_474 : Cond.static yX3_isBlank ∈ gw_tbl := gw_T2 _ (List.mem_of_getElem? (i := 234) rfl) rfl
theorem wd_475 : Cond.code yX3_isBlank prog_5_method_9_code 1 (Option.some Jvm.ClassFile.FieldType.boolean) ∈ gw_tbl := gw_T2 _ (List.mem_of_getElem? (i := 235) rfl) rfl
theorem wd_476 : Cond.methodLink "LateMirrors$Scanner" 74 yX3_tokenEnd ∈ gw_tbl := gw_T2 _ (List.mem_of_getElem? (i := 236) rfl) rfl
theorem wd_477 : Cond.static yX3_tokenEnd ∈ gw_tbl := gw_T2 _ (List.mem_of_getElem? (i := 237) rfl) rfl
theorem wd_478 : Cond.code yX3_tokenEnd prog_5_method_12_code 7 (Option.some Jvm.ClassFile.FieldType.int) ∈ gw_tbl := gw_T2 _ (List.mem_of_getElem? (i := 238) rfl) rfl
theorem wd_479 : Cond.methodLink "LateMirrors$Scanner" 116 yX3_isLetter ∈ gw_tbl := gw_T2 _ (List.mem_of_getElem? (i := 239) rfl) rfl
theorem wd_480 : Cond.static yX3_isLetter ∈ gw_tbl := gw_T3 _ (List.mem_of_getElem? (i := 0) rfl) rfl
theorem wd_481 : Cond.code yX3_isLetter prog_5_method_10_code 1 (Option.some Jvm.ClassFile.FieldType.boolean) ∈ gw_tbl := gw_T3 _ (List.mem_of_getElem? (i := 1) rfl) rfl
theorem wd_482 : Cond.methodLink "LateMirrors$Scanner" 119 yX3_isDigit ∈ gw_tbl := gw_T3 _ (List.mem_of_getElem? (i := 2) rfl) rfl
theorem wd_483 : Cond.static yX3_isDigit ∈ gw_tbl := gw_T3 _ (List.mem_of_getElem? (i := 3) rfl) rfl
theorem wd_484 : Cond.code yX3_isDigit prog_5_method_11_code 1 (Option.some Jvm.ClassFile.FieldType.boolean) ∈ gw_tbl := gw_T3 _ (List.mem_of_getElem? (i := 4) rfl) rfl
theorem wd_485 : Cond.methodLink "LateMirrors$Scanner" 77 yX3_kindOf ∈ gw_tbl := gw_T3 _ (List.mem_of_getElem? (i := 5) rfl) rfl
theorem wd_486 : Cond.privateMethod yX3_kindOf ∈ lw_tbl := wd_T3 _ (List.mem_of_getElem? (i := 6) rfl)
theorem wd_487 : Cond.instanceMethod yX3_kindOf ∈ gw_tbl := gw_T3 _ (List.mem_of_getElem? (i := 7) rfl) rfl
theorem wd_488 : Cond.code yX3_kindOf prog_5_method_13_code 6 (Option.some Jvm.ClassFile.FieldType.int) ∈ gw_tbl := gw_T3 _ (List.mem_of_getElem? (i := 8) rfl) rfl
theorem wd_489 : Cond.methodLink "LateMirrors$Scanner" 122 yX3_kindOfName ∈ gw_tbl := gw_T3 _ (List.mem_of_getElem? (i := 9) rfl) rfl
theorem wd_490 : Cond.privateMethod yX3_kindOfName ∈ lw_tbl := wd_T3 _ (List.mem_of_getElem? (i := 10) rfl)
theorem wd_491 : Cond.instanceMethod yX3_kindOfName ∈ gw_tbl := gw_T3 _ (List.mem_of_getElem? (i := 11) rfl) rfl
theorem wd_492 : Cond.code yX3_kindOfName prog_5_method_14_code 5 (Option.some Jvm.ClassFile.FieldType.int) ∈ gw_tbl := gw_T3 _ (List.mem_of_getElem? (i := 12) rfl) rfl
theorem wd_493 : Cond.methodLinkNest "LateMirrors$Scanner" 133 yX5_longAt "LateMirrors" ∈ nw_tbl := nw_T3 _ (List.mem_of_getElem? (i := 13) rfl) rfl
theorem wd_494 : Cond.static yX5_longAt ∈ gw_tbl := gw_T3 _ (List.mem_of_getElem? (i := 14) rfl) rfl
theorem wd_495 : Cond.code yX5_longAt prog_1_method_72_code 2 (Option.some Jvm.ClassFile.FieldType.long) ∈ gw_tbl := gw_T3 _ (List.mem_of_getElem? (i := 15) rfl) rfl
theorem wd_496 : Cond.stringRef "LateMirrors$Scanner" 125 ";=+-*/<()" ∈ lw_tbl := wd_T3 _ (List.mem_of_getElem? (i := 16) rfl)
theorem wd_497 : Cond.methodLink "LateMirrors$Scanner" 127 yJ0_indexOf_0f7a4 ∈ gw_tbl := gw_T3 _ (List.mem_of_getElem? (i := 17) rfl) rfl
theorem wd_498 : Cond.instanceMethod yJ0_indexOf_0f7a4 ∈ gw_tbl := gw_T3 _ (List.mem_of_getElem? (i := 18) rfl) rfl
theorem wd_499 : Cond.selects "java/lang/String" yJ0_indexOf_0f7a4 yJ0_indexOf_0f7a4 ∈ gw_tbl := gw_T3 _ (List.mem_of_getElem? (i := 19) rfl) rfl
theorem wd_500 : Cond.code yJ0_indexOf_0f7a4 prog_12_method_79_code 2 (Option.some Jvm.ClassFile.FieldType.int) ∈ gw_tbl := gw_T3 _ (List.mem_of_getElem? (i := 20) rfl) rfl
theorem wd_501 : Cond.methodLink "java/lang/String" 633 yJ0_indexOf_7cf53 ∈ gw_tbl := gw_T3 _ (List.mem_of_getElem? (i := 21) rfl) rfl
theorem wd_502 : Cond.instanceMethod yJ0_indexOf_7cf53 ∈ gw_tbl := gw_T3 _ (List.mem_of_getElem? (i := 22) rfl) rfl
theorem wd_503 : Cond.selects "java/lang/String" yJ0_indexOf_7cf53 yJ0_indexOf_7cf53 ∈ gw_tbl := gw_T3 _ (List.mem_of_getElem? (i := 23) rfl) rfl
theorem wd_504 : Cond.code yJ0_indexOf_7cf53 prog_12_method_80_code 3 (Option.some Jvm.ClassFile.FieldType.int) ∈ gw_tbl := gw_T3 _ (List.mem_of_getElem? (i := 24) rfl) rfl
theorem wd_505 : Cond.methodLink "java/lang/String" 505 yJ0_length_8abf5 ∈ gw_tbl := gw_T3 _ (List.mem_of_getElem? (i := 25) rfl) rfl
theorem wd_506 : Cond.methodLink "java/lang/String" 637 yJ1_indexOf_4cfef ∈ gw_tbl := gw_T3 _ (List.mem_of_getElem? (i := 26) rfl) rfl
theorem wd_507 : Cond.static yJ1_indexOf_4cfef ∈ gw_tbl := gw_T3 _ (List.mem_of_getElem? (i := 27) rfl) rfl
theorem wd_508 : Cond.code yJ1_indexOf_4cfef prog_13_method_22_code 4 (Option.some Jvm.ClassFile.FieldType.int) ∈ gw_tbl := gw_T3 _ (List.mem_of_getElem? (i := 28) rfl) rfl
theorem wd_509 : Cond.methodLink "java/lang/StringLatin1" 88 yJ1_canEncode_9a6ad ∈ gw_tbl := gw_T3 _ (List.mem_of_getElem? (i := 29) rfl) rfl
theorem wd_510 : Cond.static yJ1_canEncode_9a6ad ∈ gw_tbl := gw_T3 _ (List.mem_of_getElem? (i := 30) rfl) rfl
theorem wd_511 : Cond.code yJ1_canEncode_9a6ad prog_13_method_4_code 1 (Option.some Jvm.ClassFile.FieldType.boolean) ∈ gw_tbl := gw_T3 _ (List.mem_of_getElem? (i := 31) rfl) rfl
theorem wd_512 : Cond.methodLink "java/lang/StringLatin1" 92 yJ9_max_7cf53 ∈ gw_tbl := gw_T3 _ (List.mem_of_getElem? (i := 32) rfl) rfl
theorem wd_513 : Cond.methodLink "java/lang/StringLatin1" 38 yJ9_min_7cf53 ∈ gw_tbl := gw_T3 _ (List.mem_of_getElem? (i := 33) rfl) rfl
theorem wd_514 : Cond.methodLink "java/lang/StringLatin1" 95 yJ1_indexOfChar_4cfef ∈ gw_tbl := gw_T3 _ (List.mem_of_getElem? (i := 34) rfl) rfl
theorem wd_515 : Cond.static yJ1_indexOfChar_4cfef ∈ gw_tbl := gw_T3 _ (List.mem_of_getElem? (i := 35) rfl) rfl
theorem wd_516 : Cond.code yJ1_indexOfChar_4cfef prog_13_method_23_code 6 (Option.some Jvm.ClassFile.FieldType.int) ∈ gw_tbl := gw_T3 _ (List.mem_of_getElem? (i := 36) rfl) rfl
theorem wd_517 : Cond.methodLink "java/lang/String" 640 yJ2_indexOf_4cfef ∈ gw_tbl := gw_T3 _ (List.mem_of_getElem? (i := 37) rfl) rfl
theorem wd_518 : Cond.static yJ2_indexOf_4cfef ∈ gw_tbl := gw_T3 _ (List.mem_of_getElem? (i := 38) rfl) rfl
theorem wd_519 : Cond.code yJ2_indexOf_4cfef prog_14_method_40_code 4 (Option.some Jvm.ClassFile.FieldType.int) ∈ gw_tbl := gw_T3 _ (List.mem_of_getElem? (i := 39) rfl) rfl
theorem wd_520 : Cond.methodLink "java/lang/StringUTF16" 224 yJ9_max_7cf53 ∈ gw_tbl := gw_T3 _ (List.mem_of_getElem? (i := 40) rfl) rfl
theorem wd_521 : Cond.methodLink "java/lang/StringUTF16" 183 yJ9_min_7cf53 ∈ gw_tbl := gw_T3 _ (List.mem_of_getElem? (i := 41) rfl) rfl
theorem wd_522 : Cond.constant "java/lang/StringUTF16" 227 (65536 : Int32) ∈ gw_tbl := gw_T3 _ (List.mem_of_getElem? (i := 42) rfl) rfl
theorem wd_523 : Cond.methodLink "java/lang/StringUTF16" 228 yJ2_indexOfChar_4cfef ∈ gw_tbl := gw_T3 _ (List.mem_of_getElem? (i := 43) rfl) rfl
theorem wd_524 : Cond.static yJ2_indexOfChar_4cfef ∈ gw_tbl := gw_T3 _ (List.mem_of_getElem? (i := 44) rfl) rfl
theorem wd_525 : Cond.code yJ2_indexOfChar_4cfef prog_14_method_47_code 4 (Option.some Jvm.ClassFile.FieldType.int) ∈ gw_tbl := gw_T3 _ (List.mem_of_getElem? (i := 45) rfl) rfl
theorem wd_526 : Cond.methodLink "java/lang/StringUTF16" 96 yJ2_checkBoundsBeginEnd_d044e ∈ gw_tbl := gw_T3 _ (List.mem_of_getElem? (i := 46) rfl) rfl
theorem wd_527 : Cond.static yJ2_checkBoundsBeginEnd_d044e ∈ gw_tbl := gw_T3 _ (List.mem_of_getElem? (i := 47) rfl) rfl
theorem wd_528 : Cond.code yJ2_checkBoundsBeginEnd_d044e prog_14_method_93_code 3 (Option.none : Option Jvm.ClassFile.FieldType) ∈ gw_tbl := gw_T3 _ (List.mem_of_getElem? (i := 48) rfl) rfl
theorem wd_529 : Cond.methodLink "java/lang/StringUTF16" 241 yJ0_checkBoundsBeginEnd_23922 ∈ gw_tbl := gw_T3 _ (List.mem_of_getElem? (i := 49) rfl) rfl
theorem wd_530 : Cond.static yJ0_checkBoundsBeginEnd_23922 ∈ gw_tbl := gw_T3 _ (List.mem_of_getElem? (i := 50) rfl) rfl
theorem wd_531 : Cond.code yJ0_checkBoundsBeginEnd_23922 prog_12_method_158_code 3 (Option.none : Option Jvm.ClassFile.FieldType) ∈ gw_tbl := gw_T3 _ (List.mem_of_getElem? (i := 51) rfl) rfl
theorem wd_532 : Cond.methodLink "java/lang/String" 1062 yJ3_checkFromToIndex_8c36e ∈ gw_tbl := gw_T3 _ (List.mem_of_getElem? (i := 52) rfl) rfl
theorem wd_533 : Cond.static yJ3_checkFromToIndex_8c36e ∈ gw_tbl := gw_T3 _ (List.mem_of_getElem? (i := 53) rfl) rfl
theorem wd_534 : Cond.code yJ3_checkFromToIndex_8c36e prog_16_method_12_code 4 (Option.some Jvm.ClassFile.FieldType.int) ∈ gw_tbl := gw_T3 _ (List.mem_of_getElem? (i := 54) rfl) rfl
theorem wd_535 : Cond.methodLink "java/lang/StringUTF16" 244 yJ2_indexOfCharUnsafe_4cfef ∈ gw_tbl := gw_T3 _ (List.mem_of_getElem? (i := 55) rfl) rfl
theorem wd_536 : Cond.static yJ2_indexOfCharUnsafe_4cfef ∈ gw_tbl := gw_T3 _ (List.mem_of_getElem? (i := 56) rfl) rfl
theorem wd_537 : Cond.code yJ2_indexOfCharUnsafe_4cfef prog_14_method_48_code 5 (Option.some Jvm.ClassFile.FieldType.int) ∈ gw_tbl := gw_T3 _ (List.mem_of_getElem? (i := 57) rfl) rfl
theorem wd_538 : Cond.methodLink "java/lang/StringUTF16" 232 yJ2_indexOfSupplementary_4cfef ∈ gw_tbl := gw_T3 _ (List.mem_of_getElem? (i := 58) rfl) rfl
theorem wd_539 : Cond.static yJ2_indexOfSupplementary_4cfef ∈ gw_tbl := gw_T3 _ (List.mem_of_getElem? (i := 59) rfl) rfl
theorem wd_540 : Cond.code yJ2_indexOfSupplementary_4cfef prog_14_method_49_code 7 (Option.some Jvm.ClassFile.FieldType.int) ∈ gw_tbl := gw_T3 _ (List.mem_of_getElem? (i := 60) rfl) rfl
theorem wd_541 : Cond.methodLink "java/lang/StringUTF16" 164 yJ11_isValidCodePoint_9a6ad ∈ gw_tbl := gw_T3 _ (List.mem_of_getElem? (i := 61) rfl) rfl
theorem wd_542 : Cond.static yJ11_isValidCodePoint_9a6ad ∈ gw_tbl := gw_T3 _ (List.mem_of_getElem? (i := 62) rfl) rfl
theorem wd_543 : Cond.code yJ11_isValidCodePoint_9a6ad prog_9_method_11_code 2 (Option.some Jvm.ClassFile.FieldType.boolean) ∈ gw_tbl := gw_T3 _ (List.mem_of_getElem? (i := 63) rfl) rfl
theorem wd_544 : Cond.methodLink "java/lang/StringUTF16" 157 yJ11_highSurrogate_5068e ∈ gw_tbl := gw_T3 _ (List.mem_of_getElem? (i := 64) rfl) rfl
theorem wd_545 : Cond.static yJ11_highSurrogate_5068e ∈ gw_tbl := gw_T3 _ (List.mem_of_getElem? (i := 65) rfl) rfl
theorem wd_546 : Cond.code yJ11_highSurrogate_5068e prog_9_method_28_code 1 (Option.some Jvm.ClassFile.FieldType.char) ∈ gw_tbl := gw_T3 _ (List.mem_of_getElem? (i := 66) rfl) rfl
theorem wd_547 : Cond.constant "java/lang/Character" 110 (55232 : Int32) ∈ gw_tbl := gw_T3 _ (List.mem_of_getElem? (i := 67) rfl) rfl
theorem wd_548 : Cond.methodLink "java/lang/StringUTF16" 161 yJ11_lowSurrogate_5068e ∈ gw_tbl := gw_T3 _ (List.mem_of_getElem? (i := 68) rfl) rfl
theorem wd_549 : Cond.static yJ11_lowSurrogate_5068e ∈ gw_tbl := gw_T3 _ (List.mem_of_getElem? (i := 69) rfl) rfl
theorem wd_550 : Cond.code yJ11_lowSurrogate_5068e prog_9_method_29_code 1 (Option.some Jvm.ClassFile.FieldType.char) ∈ gw_tbl := gw_T3 _ (List.mem_of_getElem? (i := 70) rfl) rfl
theorem wd_551 : Cond.constant "java/lang/Character" 76 (56320 : Int32) ∈ gw_tbl := gw_T3 _ (List.mem_of_getElem? (i := 71) rfl) rfl
theorem wd_552 : Cond.constantLong "LateMirrors$Scanner" 131 (10 : Int64) ∈ gw_tbl := gw_T3 _ (List.mem_of_getElem? (i := 72) rfl) rfl
theorem wd_553 : Cond.methodLink "LateMirrors$Scanner" 80 yX3_goesOn ∈ gw_tbl := gw_T3 _ (List.mem_of_getElem? (i := 73) rfl) rfl
theorem wd_554 : Cond.privateMethod yX3_goesOn ∈ lw_tbl := wd_T3 _ (List.mem_of_getElem? (i := 74) rfl)
theorem wd_555 : Cond.instanceMethod yX3_goesOn ∈ gw_tbl := gw_T3 _ (List.mem_of_getElem? (i := 75) rfl) rfl
theorem wd_556 : Cond.code yX3_goesOn prog_5_method_16_code 4 (Option.some Jvm.ClassFile.FieldType.boolean) ∈ gw_tbl := gw_T3 _ (List.mem_of_getElem? (i := 76) rfl) rfl
theorem wd_557 : Cond.methodLink "LateMirrors$Scanner" 151 yX3_tellBegins ∈ gw_tbl := gw_T3 _ (List.mem_of_getElem? (i := 77) rfl) rfl
theorem wd_558 : Cond.privateMethod yX3_tellBegins ∈ lw_tbl := wd_T3 _ (List.mem_of_getElem? (i := 78) rfl)
theorem wd_559 : Cond.instanceMethod yX3_tellBegins ∈ gw_tbl := gw_T3 _ (List.mem_of_getElem? (i := 79) rfl) rfl
theorem wd_560 : Cond.code yX3_tellBegins prog_5_method_17_code 3 (Option.some Jvm.ClassFile.FieldType.boolean) ∈ gw_tbl := gw_T3 _ (List.mem_of_getElem? (i := 80) rfl) rfl
theorem wd_561 : Cond.methodLinkNest "LateMirrors$Scanner" 164 yX5_within "LateMirrors" ∈ nw_tbl := nw_T3 _ (List.mem_of_getElem? (i := 81) rfl) rfl
theorem wd_562 : Cond.static yX5_within ∈ gw_tbl := gw_T3 _ (List.mem_of_getElem? (i := 82) rfl) rfl
theorem wd_563 : Cond.code yX5_within prog_1_method_68_code 2 (Option.some Jvm.ClassFile.FieldType.boolean) ∈ gw_tbl := gw_T3 _ (List.mem_of_getElem? (i := 83) rfl) rfl
theorem wd_564 : Cond.methodLink "LateMirrors$Scanner" 154 yX3_shapeOf ∈ gw_tbl := gw_T3 _ (List.mem_of_getElem? (i := 84) rfl) rfl
theorem wd_565 : Cond.static yX3_shapeOf ∈ gw_tbl := gw_T3 _ (List.mem_of_getElem? (i := 85) rfl) rfl
theorem wd_566 : Cond.code yX3_shapeOf prog_5_method_15_code 1 (Option.some (Jvm.ClassFile.FieldType.object "java/lang/String")) ∈ gw_tbl := gw_T3 _ (List.mem_of_getElem? (i := 86) rfl) rfl
theorem wd_567 : Cond.stringRef "LateMirrors$Scanner" 137 "N;" ∈ lw_tbl := wd_T3 _ (List.mem_of_getElem? (i := 87) rfl)
theorem wd_568 : Cond.stringRef "LateMirrors$Scanner" 139 "NN;" ∈ lw_tbl := wd_T3 _ (List.mem_of_getElem? (i := 88) rfl)
theorem wd_569 : Cond.stringRef "LateMirrors$Scanner" 141 "NIN;" ∈ lw_tbl := wd_T3 _ (List.mem_of_getElem? (i := 89) rfl)
theorem wd_570 : Cond.stringRef "LateMirrors$Scanner" 143 "NL" ∈ lw_tbl := wd_T3 _ (List.mem_of_getElem? (i := 90) rfl)
theorem wd_571 : Cond.stringRef "LateMirrors$Scanner" 145 "NNN;" ∈ lw_tbl := wd_T3 _ (List.mem_of_getElem? (i := 91) rfl)
theorem wd_572 : Cond.stringRef "LateMirrors$Scanner" 147 "L" ∈ lw_tbl := wd_T3 _ (List.mem_of_getElem? (i := 92) rfl)
theorem wd_573 : Cond.stringRef "LateMirrors$Scanner" 149 "I;" ∈ lw_tbl := wd_T3 _ (List.mem_of_getElem? (i := 93) rfl)
theorem wd_574 : Cond.methodLink "LateMirrors$Scanner" 161 yX3_lawGoesOn ∈ gw_tbl := gw_T3 _ (List.mem_of_getElem? (i := 94) rfl) rfl
theorem wd_575 : Cond.privateMethod yX3_lawGoesOn ∈ lw_tbl := wd_T3 _ (List.mem_of_getElem? (i := 95) rfl)
theorem wd_576 : Cond.instanceMethod yX3_lawGoesOn ∈ gw_tbl := gw_T3 _ (List.mem_of_getElem? (i := 96) rfl) rfl
theorem wd_577 : Cond.code yX3_lawGoesOn prog_5_method_19_code 2 (Option.some Jvm.ClassFile.FieldType.boolean) ∈ gw_tbl := gw_T3 _ (List.mem_of_getElem? (i := 97) rfl) rfl
theorem wd_578 : Cond.methodLink "LateMirrors$Scanner" 177 yX3_beginE ∈ gw_tbl := gw_T3 _ (List.mem_of_getElem? (i := 98) rfl) rfl
theorem wd_579 : Cond.privateMethod yX3_beginE ∈ lw_tbl := wd_T3 _ (List.mem_of_getElem? (i := 99) rfl)
theorem wd_580 : Cond.instanceMethod yX3_beginE ∈ gw_tbl := gw_T3 _ (List.mem_of_getElem? (i := 100) rfl) rfl
theorem wd_581 : Cond.code yX3_beginE prog_5_method_20_code 2 (Option.none : Option Jvm.ClassFile.FieldType) ∈ gw_tbl := gw_T3 _ (List.mem_of_getElem? (i := 101) rfl) rfl
theorem wd_582 : Cond.methodLink "LateMirrors$Scanner" 185 yX3_unitBegins ∈ gw_tbl := gw_T3 _ (List.mem_of_getElem? (i := 102) rfl) rfl
theorem wd_583 : Cond.privateMethod yX3_unitBegins ∈ lw_tbl := wd_T3 _ (List.mem_of_getElem? (i := 103) rfl)
theorem wd_584 : Cond.instanceMethod yX3_unitBegins ∈ gw_tbl := gw_T3 _ (List.mem_of_getElem? (i := 104) rfl) rfl
theorem wd_585 : Cond.code yX3_unitBegins prog_5_method_21_code 2 (Option.some Jvm.ClassFile.FieldType.boolean) ∈ gw_tbl := gw_T3 _ (List.mem_of_getElem? (i := 105) rfl) rfl
theorem wd_586 : Cond.methodLink "LateMirrors$Scanner" 188 yX3_unitEnded ∈ gw_tbl := gw_T3 _ (List.mem_of_getElem? (i := 106) rfl) rfl
theorem wd_587 : Cond.privateMethod yX3_unitEnded ∈ lw_tbl := wd_T3 _ (List.mem_of_getElem? (i := 107) rfl)
theorem wd_588 : Cond.instanceMethod yX3_unitEnded ∈ gw_tbl := gw_T3 _ (List.mem_of_getElem? (i := 108) rfl) rfl
theorem wd_589 : Cond.code yX3_unitEnded prog_5_method_22_code 2 (Option.some Jvm.ClassFile.FieldType.boolean) ∈ gw_tbl := gw_T3 _ (List.mem_of_getElem? (i := 109) rfl) rfl
theorem wd_590 : Cond.methodLink "LateMirrors$Scanner" 194 yX3_partEnds ∈ gw_tbl := gw_T3 _ (List.mem_of_getElem? (i := 110) rfl) rfl
theorem wd_591 : Cond.privateMethod yX3_partEnds ∈ lw_tbl := wd_T3 _ (List.mem_of_getElem? (i := 111) rfl)
theorem wd_592 : Cond.instanceMethod yX3_partEnds ∈ gw_tbl := gw_T3 _ (List.mem_of_getElem? (i := 112) rfl) rfl
theorem wd_593 : Cond.code yX3_partEnds prog_5_method_23_code 2 (Option.some Jvm.ClassFile.FieldType.boolean) ∈ gw_tbl := gw_T3 _ (List.mem_of_getElem? (i := 113) rfl) rfl
theorem wd_594 : Cond.methodLink "LateMirrors$Scanner" 84 yX3_fail ∈ gw_tbl := gw_T3 _ (List.mem_of_getElem? (i := 114) rfl) rfl
theorem wd_595 : Cond.privateMethod yX3_fail ∈ lw_tbl := wd_T3 _ (List.mem_of_getElem? (i := 115) rfl)
theorem wd_596 : Cond.instanceMethod yX3_fail ∈ gw_tbl := gw_T3 _ (List.mem_of_getElem? (i := 116) rfl) rfl
theorem wd_597 : Cond.code yX3_fail prog_5_method_6_code 3 (Option.some Jvm.ClassFile.FieldType.int) ∈ gw_tbl := gw_T3 _ (List.mem_of_getElem? (i := 117) rfl) rfl
theorem wd_598 : Cond.methodLink "LateMirrors$Scanner" 87 yX3_tooMany ∈ gw_tbl := gw_T3 _ (List.mem_of_getElem? (i := 118) rfl) rfl
theorem wd_599 : Cond.privateMethod yX3_tooMany ∈ lw_tbl := wd_T3 _ (List.mem_of_getElem? (i := 119) rfl)
theorem wd_600 : Cond.instanceMethod yX3_tooMany ∈ gw_tbl := gw_T3 _ (List.mem_of_getElem? (i := 120) rfl) rfl
theorem wd_601 : Cond.code yX3_tooMany prog_5_method_18_code 3 (Option.some Jvm.ClassFile.FieldType.boolean) ∈ gw_tbl := gw_T3 _ (List.mem_of_getElem? (i := 121) rfl) rfl
theorem wd_602 : Cond.methodLink "LateMirrors$Scanner" 91 yX3_add ∈ gw_tbl := gw_T3 _ (List.mem_of_getElem? (i := 122) rfl) rfl
theorem wd_603 : Cond.privateMethod yX3_add ∈ lw_tbl := wd_T3 _ (List.mem_of_getElem? (i := 123) rfl)
theorem wd_604 : Cond.instanceMethod yX3_add ∈ gw_tbl := gw_T3 _ (List.mem_of_getElem? (i := 124) rfl) rfl
theorem wd_605 : Cond.code yX3_add prog_5_method_7_code 3 (Option.none : Option Jvm.ClassFile.FieldType) ∈ gw_tbl := gw_T3 _ (List.mem_of_getElem? (i := 125) rfl) rfl
theorem wd_606 : Cond.methodLinkNest "LateMirrors" 85 yX4_build "LateMirrors" ∈ nw_tbl := nw_T3 _ (List.mem_of_getElem? (i := 126) rfl) rfl
theorem wd_607 : Cond.privateMethod yX4_build ∈ lw_tbl := wd_T3 _ (List.mem_of_getElem? (i := 127) rfl)
theorem wd_608 : Cond.instanceMethod yX4_build ∈ gw_tbl := gw_T3 _ (List.mem_of_getElem? (i := 128) rfl) rfl
theorem wd_609 : Cond.code yX4_build prog_6_method_3_code 4 (Option.some Jvm.ClassFile.FieldType.int) ∈ gw_tbl := gw_T3 _ (List.mem_of_getElem? (i := 129) rfl) rfl
theorem wd_610 : Cond.methodLink "LateMirrors$Text" 84 yX4_take ∈ gw_tbl := gw_T3 _ (List.mem_of_getElem? (i := 130) rfl) rfl
theorem wd_611 : Cond.privateMethod yX4_take ∈ lw_tbl := wd_T3 _ (List.mem_of_getElem? (i := 131) rfl)
theorem wd_612 : Cond.instanceMethod yX4_take ∈ gw_tbl := gw_T3 _ (List.mem_of_getElem? (i := 132) rfl) rfl
theorem wd_613 : Cond.code yX4_take prog_6_method_4_code 3 (Option.some Jvm.ClassFile.FieldType.int) ∈ gw_tbl := gw_T3 _ (List.mem_of_getElem? (i := 133) rfl) rfl
theorem wd_614 : Cond.methodLink "LateMirrors$Text" 95 yX4_declare ∈ gw_tbl := gw_T3 _ (List.mem_of_getElem? (i := 134) rfl) rfl
theorem wd_615 : Cond.privateMethod yX4_declare ∈ lw_tbl := wd_T3 _ (List.mem_of_getElem? (i := 135) rfl)
theorem wd_616 : Cond.instanceMethod yX4_declare ∈ gw_tbl := gw_T3 _ (List.mem_of_getElem? (i := 136) rfl) rfl
theorem wd_617 : Cond.code yX4_declare prog_6_method_9_code 7 (Option.none : Option Jvm.ClassFile.FieldType) ∈ gw_tbl := gw_T3 _ (List.mem_of_getElem? (i := 137) rfl) rfl
theorem wd_618 : Cond.methodLinkNest "LateMirrors$Text" 134 yX5_longAt "LateMirrors" ∈ nw_tbl := nw_T3 _ (List.mem_of_getElem? (i := 138) rfl) rfl
theorem wd_619 : Cond.methodLink "LateMirrors$Text" 138 yX4_meaningOf ∈ gw_tbl := gw_T3 _ (List.mem_of_getElem? (i := 139) rfl) rfl
theorem wd_620 : Cond.privateMethod yX4_meaningOf ∈ lw_tbl := wd_T3 _ (List.mem_of_getElem? (i := 140) rfl)
theorem wd_621 : Cond.instanceMethod yX4_meaningOf ∈ gw_tbl := gw_T3 _ (List.mem_of_getElem? (i := 141) rfl) rfl
theorem wd_622 : Cond.code yX4_meaningOf prog_6_method_10_code 4 (Option.some Jvm.ClassFile.FieldType.int) ∈ gw_tbl := gw_T3 _ (List.mem_of_getElem? (i := 142) rfl) rfl
theorem wd_623 : Cond.methodLink "LateMirrors$Text" 124 yX4_fail ∈ gw_tbl := gw_T3 _ (List.mem_of_getElem? (i := 143) rfl) rfl
theorem wd_624 : Cond.privateMethod yX4_fail ∈ lw_tbl := wd_T3 _ (List.mem_of_getElem? (i := 144) rfl)
theorem wd_625 : Cond.instanceMethod yX4_fail ∈ gw_tbl := gw_T3 _ (List.mem_of_getElem? (i := 145) rfl) rfl
theorem wd_626 : Cond.code yX4_fail prog_6_method_8_code 4 (Option.none : Option Jvm.ClassFile.FieldType) ∈ gw_tbl := gw_T3 _ (List.mem_of_getElem? (i := 146) rfl) rfl
theorem wd_627 : Cond.methodLinkNest "LateMirrors$Text" 142 yX5_putLong "LateMirrors" ∈ nw_tbl := nw_T3 _ (List.mem_of_getElem? (i := 147) rfl) rfl
theorem wd_628 : Cond.methodLinkNest "LateMirrors$Text" 111 yX5_put "LateMirrors" ∈ nw_tbl := nw_T3 _ (List.mem_of_getElem? (i := 148) rfl) rfl
theorem wd_629 : Cond.methodLink "LateMirrors$Text" 99 yX4_takeDoor ∈ gw_tbl := gw_T3 _ (List.mem_of_getElem? (i := 149) rfl) rfl
theorem wd_630 : Cond.privateMethod yX4_takeDoor ∈ lw_tbl := wd_T3 _ (List.mem_of_getElem? (i := 150) rfl)
theorem wd_631 : Cond.instanceMethod yX4_takeDoor ∈ gw_tbl := gw_T3 _ (List.mem_of_getElem? (i := 151) rfl) rfl
theorem wd_632 : Cond.code yX4_takeDoor prog_6_method_5_code 5 (Option.none : Option Jvm.ClassFile.FieldType) ∈ gw_tbl := gw_T3 _ (List.mem_of_getElem? (i := 152) rfl) rfl
theorem wd_633 : Cond.methodLink "LateMirrors$Text" 106 yX4_named ∈ gw_tbl := gw_T3 _ (List.mem_of_getElem? (i := 153) rfl) rfl
theorem wd_634 : Cond.privateMethod yX4_named ∈ lw_tbl := wd_T3 _ (List.mem_of_getElem? (i := 154) rfl)
theorem wd_635 : Cond.instanceMethod yX4_named ∈ gw_tbl := gw_T3 _ (List.mem_of_getElem? (i := 155) rfl) rfl
theorem wd_636 : Cond.code yX4_named prog_6_method_11_code 5 (Option.some Jvm.ClassFile.FieldType.int) ∈ gw_tbl := gw_T3 _ (List.mem_of_getElem? (i := 156) rfl) rfl
theorem wd_637 : Cond.methodLink "LateMirrors$Text" 103 yX4_takeMan ∈ gw_tbl := gw_T3 _ (List.mem_of_getElem? (i := 157) rfl) rfl
theorem wd_638 : Cond.privateMethod yX4_takeMan ∈ lw_tbl := wd_T3 _ (List.mem_of_getElem? (i := 158) rfl)
theorem wd_639 : Cond.instanceMethod yX4_takeMan ∈ gw_tbl := gw_T3 _ (List.mem_of_getElem? (i := 159) rfl) rfl
theorem wd_640 : Cond.code yX4_takeMan prog_6_method_6_code 3 (Option.none : Option Jvm.ClassFile.FieldType) ∈ gw_tbl := gw_T3 _ (List.mem_of_getElem? (i := 160) rfl) rfl
theorem wd_641 : Cond.methodLink "LateMirrors$Text" 121 yX4_number ∈ gw_tbl := gw_T3 _ (List.mem_of_getElem? (i := 161) rfl) rfl
theorem wd_642 : Cond.privateMethod yX4_number ∈ lw_tbl := wd_T3 _ (List.mem_of_getElem? (i := 162) rfl)
theorem wd_643 : Cond.instanceMethod yX4_number ∈ gw_tbl := gw_T3 _ (List.mem_of_getElem? (i := 163) rfl) rfl
theorem wd_644 : Cond.code yX4_number prog_6_method_12_code 5 (Option.some Jvm.ClassFile.FieldType.int) ∈ gw_tbl := gw_T3 _ (List.mem_of_getElem? (i := 164) rfl) rfl
theorem wd_645 : Cond.methodLinkNest "LateMirrors$Text" 115 yX1_compile "LateMirrors" ∈ nw_tbl := nw_T3 _ (List.mem_of_getElem? (i := 165) rfl) rfl
theorem wd_646 : Cond.privateMethod yX1_compile ∈ lw_tbl := wd_T3 _ (List.mem_of_getElem? (i := 166) rfl)
theorem wd_647 : Cond.instanceMethod yX1_compile ∈ gw_tbl := gw_T3 _ (List.mem_of_getElem? (i := 167) rfl) rfl
theorem wd_648 : Cond.code yX1_compile prog_3_method_4_code 6 (Option.some Jvm.ClassFile.FieldType.int) ∈ gw_tbl := gw_T3 _ (List.mem_of_getElem? (i := 168) rfl) rfl
theorem wd_649 : Cond.methodLinkNest "LateMirrors$Laws" 56 yX5_longAt "LateMirrors" ∈ nw_tbl := nw_T3 _ (List.mem_of_getElem? (i := 169) rfl) rfl
theorem wd_650 : Cond.methodLink "LateMirrors$Laws" 60 yX1_putOff ∈ gw_tbl := gw_T3 _ (List.mem_of_getElem? (i := 170) rfl) rfl
theorem wd_651 : Cond.privateMethod yX1_putOff ∈ lw_tbl := wd_T3 _ (List.mem_of_getElem? (i := 171) rfl)
theorem wd_652 : Cond.instanceMethod yX1_putOff ∈ gw_tbl := gw_T3 _ (List.mem_of_getElem? (i := 172) rfl) rfl
theorem wd_653 : Cond.code yX1_putOff prog_3_method_6_code 2 (Option.none : Option Jvm.ClassFile.FieldType) ∈ gw_tbl := gw_T3 _ (List.mem_of_getElem? (i := 173) rfl) rfl
theorem wd_654 : Cond.methodLink "LateMirrors$Laws" 64 yX1_isOperator ∈ gw_tbl := gw_T3 _ (List.mem_of_getElem? (i := 174) rfl) rfl
theorem wd_655 : Cond.static yX1_isOperator ∈ gw_tbl := gw_T3 _ (List.mem_of_getElem? (i := 175) rfl) rfl
theorem wd_656 : Cond.code yX1_isOperator prog_3_method_5_code 1 (Option.some Jvm.ClassFile.FieldType.boolean) ∈ gw_tbl := gw_T3 _ (List.mem_of_getElem? (i := 176) rfl) rfl
theorem wd_657 : Cond.methodLink "LateMirrors$Laws" 68 yX1_bindingOf ∈ gw_tbl := gw_T3 _ (List.mem_of_getElem? (i := 177) rfl) rfl
theorem wd_658 : Cond.static yX1_bindingOf ∈ gw_tbl := gw_T3 _ (List.mem_of_getElem? (i := 178) rfl) rfl
theorem wd_659 : Cond.code yX1_bindingOf prog_3_method_8_code 1 (Option.some Jvm.ClassFile.FieldType.int) ∈ gw_tbl := gw_T3 _ (List.mem_of_getElem? (i := 179) rfl) rfl
theorem wd_660 : Cond.methodLink "LateMirrors$Laws" 72 yX1_unwind ∈ gw_tbl := gw_T3 _ (List.mem_of_getElem? (i := 180) rfl) rfl
theorem wd_661 : Cond.privateMethod yX1_unwind ∈ lw_tbl := wd_T3 _ (List.mem_of_getElem? (i := 181) rfl)
theorem wd_662 : Cond.instanceMethod yX1_unwind ∈ gw_tbl := gw_T3 _ (List.mem_of_getElem? (i := 182) rfl) rfl
theorem wd_663 : Cond.code yX1_unwind prog_3_method_9_code 4 (Option.none : Option Jvm.ClassFile.FieldType) ∈ gw_tbl := gw_T3 _ (List.mem_of_getElem? (i := 183) rfl) rfl
theorem wd_664 : Cond.methodLink "LateMirrors$Laws" 75 yX1_endPart ∈ gw_tbl := gw_T3 _ (List.mem_of_getElem? (i := 184) rfl) rfl
theorem wd_665 : Cond.privateMethod yX1_endPart ∈ lw_tbl := wd_T3 _ (List.mem_of_getElem? (i := 185) rfl)
theorem wd_666 : Cond.instanceMethod yX1_endPart ∈ gw_tbl := gw_T3 _ (List.mem_of_getElem? (i := 186) rfl) rfl
theorem wd_667 : Cond.code yX1_endPart prog_3_method_7_code 3 (Option.some Jvm.ClassFile.FieldType.int) ∈ gw_tbl := gw_T3 _ (List.mem_of_getElem? (i := 187) rfl) rfl
theorem wd_668 : Cond.methodLink "LateMirrors$Text" 118 yX4_takeMirror ∈ gw_tbl := gw_T3 _ (List.mem_of_getElem? (i := 188) rfl) rfl
theorem wd_669 : Cond.privateMethod yX4_takeMirror ∈ lw_tbl := wd_T3 _ (List.mem_of_getElem? (i := 189) rfl)
theorem wd_670 : Cond.instanceMethod yX4_takeMirror ∈ gw_tbl := gw_T3 _ (List.mem_of_getElem? (i := 190) rfl) rfl
theorem wd_671 : Cond.code yX4_takeMirror prog_6_method_7_code 3 (Option.none : Option Jvm.ClassFile.FieldType) ∈ gw_tbl := gw_T3 _ (List.mem_of_getElem? (i := 191) rfl) rfl
theorem wd_672 : Cond.methodLink "LateMirrors" 90 yX5_takeSpare ∈ gw_tbl := gw_T3 _ (List.mem_of_getElem? (i := 192) rfl) rfl
theorem wd_673 : Cond.privateMethod yX5_takeSpare ∈ lw_tbl := wd_T3 _ (List.mem_of_getElem? (i := 193) rfl)
theorem wd_674 : Cond.instanceMethod yX5_takeSpare ∈ gw_tbl := gw_T3 _ (List.mem_of_getElem? (i := 194) rfl) rfl
theorem wd_675 : Cond.code yX5_takeSpare prog_1_method_6_code 2 (Option.none : Option Jvm.ClassFile.FieldType) ∈ gw_tbl := gw_T3 _ (List.mem_of_getElem? (i := 195) rfl) rfl
theorem wd_676 : Cond.methodLinkNest "LateMirrors" 93 yX0_begin "LateMirrors" ∈ nw_tbl := nw_T3 _ (List.mem_of_getElem? (i := 196) rfl) rfl
theorem wd_677 : Cond.methodLinkNest "LateMirrors" 96 yX2_clear "LateMirrors" ∈ nw_tbl := nw_T3 _ (List.mem_of_getElem? (i := 197) rfl) rfl
theorem wd_678 : Cond.privateMethod yX2_clear ∈ lw_tbl := wd_T3 _ (List.mem_of_getElem? (i := 198) rfl)
theorem wd_679 : Cond.instanceMethod yX2_clear ∈ gw_tbl := gw_T3 _ (List.mem_of_getElem? (i := 199) rfl) rfl
theorem wd_680 : Cond.code yX2_clear prog_4_method_2_code 1 (Option.none : Option Jvm.ClassFile.FieldType) ∈ gw_tbl := gw_T3 _ (List.mem_of_getElem? (i := 200) rfl) rfl
theorem wd_681 : Cond.methodLink "LateMirrorsLaw" 28 yX5_place ∈ gw_tbl := gw_T3 _ (List.mem_of_getElem? (i := 201) rfl) rfl
theorem wd_682 : Cond.instanceMethod yX5_place ∈ gw_tbl := gw_T3 _ (List.mem_of_getElem? (i := 202) rfl) rfl
theorem wd_683 : Cond.selects "LateMirrors" yX5_place yX5_place ∈ gw_tbl := gw_T3 _ (List.mem_of_getElem? (i := 203) rfl) rfl
theorem wd_684 : Cond.code yX5_place prog_1_method_7_code 1 (Option.some Jvm.ClassFile.FieldType.int) ∈ gw_tbl := gw_T3 _ (List.mem_of_getElem? (i := 204) rfl) rfl
theorem wd_685 : Cond.methodLink "LateMirrorsLaw" 32 yX5_man ∈ gw_tbl := gw_T3 _ (List.mem_of_getElem? (i := 205) rfl) rfl
theorem wd_686 : Cond.instanceMethod yX5_man ∈ gw_tbl := gw_T3 _ (List.mem_of_getElem? (i := 206) rfl) rfl
theorem wd_687 : Cond.selects "LateMirrors" yX5_man yX5_man ∈ gw_tbl := gw_T3 _ (List.mem_of_getElem? (i := 207) rfl) rfl
theorem wd_688 : Cond.code yX5_man prog_1_method_8_code 4 (Option.some Jvm.ClassFile.FieldType.int) ∈ gw_tbl := gw_T3 _ (List.mem_of_getElem? (i := 208) rfl) rfl
theorem wd_689 : Cond.methodLink "LateMirrors" 105 yX5_isMan ∈ gw_tbl := gw_T3 _ (List.mem_of_getElem? (i := 209) rfl) rfl
theorem wd_690 : Cond.privateMethod yX5_isMan ∈ lw_tbl := wd_T3 _ (List.mem_of_getElem? (i := 210) rfl)
theorem wd_691 : Cond.instanceMethod yX5_isMan ∈ gw_tbl := gw_T3 _ (List.mem_of_getElem? (i := 211) rfl) rfl
theorem wd_692 : Cond.code yX5_isMan prog_1_method_63_code 2 (Option.some Jvm.ClassFile.FieldType.boolean) ∈ gw_tbl := gw_T3 _ (List.mem_of_getElem? (i := 212) rfl) rfl
theorem wd_693 : Cond.methodLink "LateMirrors" 112 yX5_within ∈ gw_tbl := gw_T3 _ (List.mem_of_getElem? (i := 213) rfl) rfl
theorem wd_694 : Cond.methodLink "LateMirrors" 109 yX5_isPast ∈ gw_tbl := gw_T3 _ (List.mem_of_getElem? (i := 214) rfl) rfl
theorem wd_695 : Cond.privateMethod yX5_isPast ∈ lw_tbl := wd_T3 _ (List.mem_of_getElem? (i := 215) rfl)
theorem wd_696 : Cond.instanceMethod yX5_isPast ∈ gw_tbl := gw_T3 _ (List.mem_of_getElem? (i := 216) rfl) rfl
theorem wd_697 : Cond.code yX5_isPast prog_1_method_66_code 2 (Option.some Jvm.ClassFile.FieldType.boolean) ∈ gw_tbl := gw_T3 _ (List.mem_of_getElem? (i := 217) rfl) rfl
theorem wd_698 : Cond.methodLinkNest "LateMirrors" 116 yX0_roomOf "LateMirrors" ∈ nw_tbl := nw_T3 _ (List.mem_of_getElem? (i := 218) rfl) rfl
theorem wd_699 : Cond.privateMethod yX0_roomOf ∈ lw_tbl := wd_T3 _ (List.mem_of_getElem? (i := 219) rfl)
theorem wd_700 : Cond.instanceMethod yX0_roomOf ∈ gw_tbl := gw_T3 _ (List.mem_of_getElem? (i := 220) rfl) rfl
theorem wd_701 : Cond.code yX0_roomOf prog_2_method_6_code 3 (Option.some Jvm.ClassFile.FieldType.int) ∈ gw_tbl := gw_T3 _ (List.mem_of_getElem? (i := 221) rfl) rfl
theorem wd_702 : Cond.methodLinkNest "LateMirrors" 120 yX0_rankOf "LateMirrors" ∈ nw_tbl := nw_T3 _ (List.mem_of_getElem? (i := 222) rfl) rfl
theorem wd_703 : Cond.methodLink "LateMirrorsLaw" 37 yX5_mirror ∈ gw_tbl := gw_T3 _ (List.mem_of_getElem? (i := 223) rfl) rfl
theorem wd_704 : Cond.instanceMethod yX5_mirror ∈ gw_tbl := gw_T3 _ (List.mem_of_getElem? (i := 224) rfl) rfl
theorem wd_705 : Cond.selects "LateMirrors" yX5_mirror yX5_mirror ∈ gw_tbl := gw_T3 _ (List.mem_of_getElem? (i := 225) rfl) rfl
theorem wd_706 : Cond.code yX5_mirror prog_1_method_9_code 4 (Option.some Jvm.ClassFile.FieldType.int) ∈ gw_tbl := gw_T3 _ (List.mem_of_getElem? (i := 226) rfl) rfl
theorem wd_707 : Cond.methodLink "LateMirrors" 123 yX5_isMirror ∈ gw_tbl := gw_T3 _ (List.mem_of_getElem? (i := 227) rfl) rfl
theorem wd_708 : Cond.privateMethod yX5_isMirror ∈ lw_tbl := wd_T3 _ (List.mem_of_getElem? (i := 228) rfl)
theorem wd_709 : Cond.instanceMethod yX5_isMirror ∈ gw_tbl := gw_T3 _ (List.mem_of_getElem? (i := 229) rfl) rfl
theorem wd_710 : Cond.code yX5_isMirror prog_1_method_64_code 2 (Option.some Jvm.ClassFile.FieldType.boolean) ∈ gw_tbl := gw_T3 _ (List.mem_of_getElem? (i := 230) rfl) rfl
theorem wd_711 : Cond.methodLinkNest "LateMirrors" 126 yX0_hangOf "LateMirrors" ∈ nw_tbl := nw_T3 _ (List.mem_of_getElem? (i := 231) rfl) rfl
theorem wd_712 : Cond.methodLinkNest "LateMirrors" 129 yX0_lateOf "LateMirrors" ∈ nw_tbl := nw_T3 _ (List.mem_of_getElem? (i := 232) rfl) rfl
theorem wd_713 : Cond.privateMethod yX0_lateOf ∈ lw_tbl := wd_T3 _ (List.mem_of_getElem? (i := 233) rfl)
theorem wd_714 : Cond.instanceMethod yX0_lateOf ∈ gw_tbl := gw_T3 _ (List.mem_of_getElem? (i := 234) rfl) rfl
theorem wd_715 : Cond.code yX0_lateOf prog_2_method_9_code 3 (Option.some Jvm.ClassFile.FieldType.int) ∈ gw_tbl := gw_T3 _ (List.mem_of_getElem? (i := 235) rfl) rfl
theorem wd_716 : Cond.methodLinkNest "LateMirrors" 132 yX0_isTurned "LateMirrors" ∈ nw_tbl := nw_T3 _ (List.mem_of_getElem? (i := 236) rfl) rfl
theorem wd_717 : Cond.privateMethod yX0_isTurned ∈ lw_tbl := wd_T3 _ (List.mem_of_getElem? (i := 237) rfl)
theorem wd_718 : Cond.instanceMethod yX0_isTurned ∈ gw_tbl := gw_T3 _ (List.mem_of_getElem? (i := 238) rfl) rfl
theorem wd_719 : Cond.code yX0_isTurned prog_2_method_10_code 3 (Option.some Jvm.ClassFile.FieldType.boolean) ∈ gw_tbl := gw_T3 _ (List.mem_of_getElem? (i := 239) rfl) rfl
theorem wd_720 : Cond.methodLinkNest "LateMirrors$Court" 72 yX5_has "LateMirrors" ∈ nw_tbl := nw_T4 _ (List.mem_of_getElem? (i := 0) rfl) rfl
theorem wd_721 : Cond.static yX5_has ∈ gw_tbl := gw_T4 _ (List.mem_of_getElem? (i := 1) rfl) rfl
theorem wd_722 : Cond.code yX5_has prog_1_method_69_code 2 (Option.some Jvm.ClassFile.FieldType.boolean) ∈ gw_tbl := gw_T4 _ (List.mem_of_getElem? (i := 2) rfl) rfl
theorem wd_723 : Cond.methodLinkNest "LateMirrors" 135 yX0_isBroken "LateMirrors" ∈ nw_tbl := nw_T4 _ (List.mem_of_getElem? (i := 3) rfl) rfl
theorem wd_724 : Cond.privateMethod yX0_isBroken ∈ lw_tbl := wd_T4 _ (List.mem_of_getElem? (i := 4) rfl)
theorem wd_725 : Cond.instanceMethod yX0_isBroken ∈ gw_tbl := gw_T4 _ (List.mem_of_getElem? (i := 5) rfl) rfl
theorem wd_726 : Cond.code yX0_isBroken prog_2_method_11_code 3 (Option.some Jvm.ClassFile.FieldType.boolean) ∈ gw_tbl := gw_T4 _ (List.mem_of_getElem? (i := 6) rfl) rfl
theorem wd_727 : Cond.methodLinkNest "LateMirrors" 138 yX0_showing "LateMirrors" ∈ nw_tbl := nw_T4 _ (List.mem_of_getElem? (i := 7) rfl) rfl
theorem wd_728 : Cond.privateMethod yX0_showing ∈ lw_tbl := wd_T4 _ (List.mem_of_getElem? (i := 8) rfl)
theorem wd_729 : Cond.instanceMethod yX0_showing ∈ gw_tbl := gw_T4 _ (List.mem_of_getElem? (i := 9) rfl) rfl
theorem wd_730 : Cond.code yX0_showing prog_2_method_15_code 4 (Option.some Jvm.ClassFile.FieldType.int) ∈ gw_tbl := gw_T4 _ (List.mem_of_getElem? (i := 10) rfl) rfl
theorem wd_731 : Cond.methodLink "LateMirrors$Court" 79 yX0_isBroken ∈ gw_tbl := gw_T4 _ (List.mem_of_getElem? (i := 11) rfl) rfl
theorem wd_732 : Cond.methodLink "LateMirrors$Court" 85 yX0_lateOf ∈ gw_tbl := gw_T4 _ (List.mem_of_getElem? (i := 12) rfl) rfl
theorem wd_733 : Cond.methodLink "LateMirrors$Court" 89 yX0_isTurned ∈ gw_tbl := gw_T4 _ (List.mem_of_getElem? (i := 13) rfl) rfl
theorem wd_734 : Cond.methodLinkNest "LateMirrors" 141 yX0_roomShown "LateMirrors" ∈ nw_tbl := nw_T4 _ (List.mem_of_getElem? (i := 14) rfl) rfl
theorem wd_735 : Cond.privateMethod yX0_roomShown ∈ lw_tbl := wd_T4 _ (List.mem_of_getElem? (i := 15) rfl)
theorem wd_736 : Cond.instanceMethod yX0_roomShown ∈ gw_tbl := gw_T4 _ (List.mem_of_getElem? (i := 16) rfl) rfl
theorem wd_737 : Cond.code yX0_roomShown prog_2_method_16_code 4 (Option.some Jvm.ClassFile.FieldType.int) ∈ gw_tbl := gw_T4 _ (List.mem_of_getElem? (i := 17) rfl) rfl
theorem wd_738 : Cond.methodLink "LateMirrors$Court" 92 yX0_showing ∈ gw_tbl := gw_T4 _ (List.mem_of_getElem? (i := 18) rfl) rfl
theorem wd_739 : Cond.methodLinkNest "LateMirrors" 144 yX0_menShown "LateMirrors" ∈ nw_tbl := nw_T4 _ (List.mem_of_getElem? (i := 19) rfl) rfl
theorem wd_740 : Cond.privateMethod yX0_menShown ∈ lw_tbl := wd_T4 _ (List.mem_of_getElem? (i := 20) rfl)
theorem wd_741 : Cond.instanceMethod yX0_menShown ∈ gw_tbl := gw_T4 _ (List.mem_of_getElem? (i := 21) rfl) rfl
theorem wd_742 : Cond.code yX0_menShown prog_2_method_17_code 4 (Option.some Jvm.ClassFile.FieldType.int) ∈ gw_tbl := gw_T4 _ (List.mem_of_getElem? (i := 22) rfl) rfl
theorem wd_743 : Cond.methodLink "LateMirrorsLaw" 41 yX5_minutes ∈ gw_tbl := gw_T4 _ (List.mem_of_getElem? (i := 23) rfl) rfl
theorem wd_744 : Cond.instanceMethod yX5_minutes ∈ gw_tbl := gw_T4 _ (List.mem_of_getElem? (i := 24) rfl) rfl
theorem wd_745 : Cond.selects "LateMirrors" yX5_minutes yX5_minutes ∈ gw_tbl := gw_T4 _ (List.mem_of_getElem? (i := 25) rfl) rfl
theorem wd_746 : Cond.code yX5_minutes prog_1_method_10_code 2 (Option.some Jvm.ClassFile.FieldType.int) ∈ gw_tbl := gw_T4 _ (List.mem_of_getElem? (i := 26) rfl) rfl
theorem wd_747 : Cond.methodLinkNest "LateMirrors" 150 yX2_keep "LateMirrors" ∈ nw_tbl := nw_T4 _ (List.mem_of_getElem? (i := 27) rfl) rfl
theorem wd_748 : Cond.privateMethod yX2_keep ∈ lw_tbl := wd_T4 _ (List.mem_of_getElem? (i := 28) rfl)
theorem wd_749 : Cond.instanceMethod yX2_keep ∈ gw_tbl := gw_T4 _ (List.mem_of_getElem? (i := 29) rfl) rfl
theorem wd_750 : Cond.code yX2_keep prog_4_method_3_code 2 (Option.none : Option Jvm.ClassFile.FieldType) ∈ gw_tbl := gw_T4 _ (List.mem_of_getElem? (i := 30) rfl) rfl
theorem wd_751 : Cond.methodLinkNest "LateMirrors$Past" 24 yX0_keepIn "LateMirrors" ∈ nw_tbl := nw_T4 _ (List.mem_of_getElem? (i := 31) rfl) rfl
theorem wd_752 : Cond.privateMethod yX0_keepIn ∈ lw_tbl := wd_T4 _ (List.mem_of_getElem? (i := 32) rfl)
theorem wd_753 : Cond.instanceMethod yX0_keepIn ∈ gw_tbl := gw_T4 _ (List.mem_of_getElem? (i := 33) rfl) rfl
theorem wd_754 : Cond.code yX0_keepIn prog_2_method_4_code 4 (Option.none : Option Jvm.ClassFile.FieldType) ∈ gw_tbl := gw_T4 _ (List.mem_of_getElem? (i := 34) rfl) rfl
theorem wd_755 : Cond.methodLinkNest "LateMirrors" 154 yX0_goTo "LateMirrors" ∈ nw_tbl := nw_T4 _ (List.mem_of_getElem? (i := 35) rfl) rfl
theorem wd_756 : Cond.privateMethod yX0_goTo ∈ lw_tbl := wd_T4 _ (List.mem_of_getElem? (i := 36) rfl)
theorem wd_757 : Cond.instanceMethod yX0_goTo ∈ gw_tbl := gw_T4 _ (List.mem_of_getElem? (i := 37) rfl) rfl
theorem wd_758 : Cond.code yX0_goTo prog_2_method_28_code 5 (Option.none : Option Jvm.ClassFile.FieldType) ∈ gw_tbl := gw_T4 _ (List.mem_of_getElem? (i := 38) rfl) rfl
theorem wd_759 : Cond.methodLink "LateMirrors$Court" 146 yX0_moveMen ∈ gw_tbl := gw_T4 _ (List.mem_of_getElem? (i := 39) rfl) rfl
theorem wd_760 : Cond.privateMethod yX0_moveMen ∈ lw_tbl := wd_T4 _ (List.mem_of_getElem? (i := 40) rfl)
theorem wd_761 : Cond.instanceMethod yX0_moveMen ∈ gw_tbl := gw_T4 _ (List.mem_of_getElem? (i := 41) rfl) rfl
theorem wd_762 : Cond.code yX0_moveMen prog_2_method_29_code 3 (Option.none : Option Jvm.ClassFile.FieldType) ∈ gw_tbl := gw_T4 _ (List.mem_of_getElem? (i := 42) rfl) rfl
theorem wd_763 : Cond.methodLink "LateMirrors$Court" 160 yX0_roomAfter ∈ gw_tbl := gw_T4 _ (List.mem_of_getElem? (i := 43) rfl) rfl
theorem wd_764 : Cond.privateMethod yX0_roomAfter ∈ lw_tbl := wd_T4 _ (List.mem_of_getElem? (i := 44) rfl)
theorem wd_765 : Cond.instanceMethod yX0_roomAfter ∈ gw_tbl := gw_T4 _ (List.mem_of_getElem? (i := 45) rfl) rfl
theorem wd_766 : Cond.code yX0_roomAfter prog_2_method_30_code 7 (Option.some Jvm.ClassFile.FieldType.int) ∈ gw_tbl := gw_T4 _ (List.mem_of_getElem? (i := 46) rfl) rfl
theorem wd_767 : Cond.methodLink "LateMirrors$Court" 163 yX0_roomOf ∈ gw_tbl := gw_T4 _ (List.mem_of_getElem? (i := 47) rfl) rfl
theorem wd_768 : Cond.methodLinkNest "LateMirrors$Court" 169 yX4_wayTo "LateMirrors" ∈ nw_tbl := nw_T4 _ (List.mem_of_getElem? (i := 48) rfl) rfl
theorem wd_769 : Cond.privateMethod yX4_wayTo ∈ lw_tbl := wd_T4 _ (List.mem_of_getElem? (i := 49) rfl)
theorem wd_770 : Cond.instanceMethod yX4_wayTo ∈ gw_tbl := gw_T4 _ (List.mem_of_getElem? (i := 50) rfl) rfl
theorem wd_771 : Cond.code yX4_wayTo prog_6_method_16_code 7 (Option.some Jvm.ClassFile.FieldType.int) ∈ gw_tbl := gw_T4 _ (List.mem_of_getElem? (i := 51) rfl) rfl
theorem wd_772 : Cond.methodLinkNest "LateMirrors$Court" 152 yX4_breaksAt "LateMirrors" ∈ nw_tbl := nw_T4 _ (List.mem_of_getElem? (i := 52) rfl) rfl
theorem wd_773 : Cond.privateMethod yX4_breaksAt ∈ lw_tbl := wd_T4 _ (List.mem_of_getElem? (i := 53) rfl)
theorem wd_774 : Cond.instanceMethod yX4_breaksAt ∈ gw_tbl := gw_T4 _ (List.mem_of_getElem? (i := 54) rfl) rfl
theorem wd_775 : Cond.code yX4_breaksAt prog_6_method_17_code 4 (Option.some Jvm.ClassFile.FieldType.boolean) ∈ gw_tbl := gw_T4 _ (List.mem_of_getElem? (i := 55) rfl) rfl
theorem wd_776 : Cond.methodLink "LateMirrors$Text" 146 yX4_lot ∈ gw_tbl := gw_T4 _ (List.mem_of_getElem? (i := 56) rfl) rfl
theorem wd_777 : Cond.static yX4_lot ∈ gw_tbl := gw_T4 _ (List.mem_of_getElem? (i := 57) rfl) rfl
theorem wd_778 : Cond.code yX4_lot prog_6_method_18_code 4 (Option.some Jvm.ClassFile.FieldType.int) ∈ gw_tbl := gw_T4 _ (List.mem_of_getElem? (i := 58) rfl) rfl
theorem wd_779 : Cond.methodLink "LateMirrors$Text" 150 yX4_mixed ∈ gw_tbl := gw_T4 _ (List.mem_of_getElem? (i := 59) rfl) rfl
theorem wd_780 : Cond.static yX4_mixed ∈ gw_tbl := gw_T4 _ (List.mem_of_getElem? (i := 60) rfl) rfl
theorem wd_781 : Cond.code yX4_mixed prog_6_method_19_code 3 (Option.some Jvm.ClassFile.FieldType.int) ∈ gw_tbl := gw_T4 _ (List.mem_of_getElem? (i := 61) rfl) rfl
theorem wd_782 : Cond.constant "LateMirrors$Text" 154 (1103515245 : Int32) ∈ gw_tbl := gw_T4 _ (List.mem_of_getElem? (i := 62) rfl) rfl
theorem wd_783 : Cond.methodLink "LateMirrors$Court" 156 yX0_breakNow ∈ gw_tbl := gw_T4 _ (List.mem_of_getElem? (i := 63) rfl) rfl
theorem wd_784 : Cond.privateMethod yX0_breakNow ∈ lw_tbl := wd_T4 _ (List.mem_of_getElem? (i := 64) rfl)
theorem wd_785 : Cond.instanceMethod yX0_breakNow ∈ gw_tbl := gw_T4 _ (List.mem_of_getElem? (i := 65) rfl) rfl
theorem wd_786 : Cond.code yX0_breakNow prog_2_method_25_code 2 (Option.none : Option Jvm.ClassFile.FieldType) ∈ gw_tbl := gw_T4 _ (List.mem_of_getElem? (i := 66) rfl) rfl
theorem wd_787 : Cond.methodLink "LateMirrorsLaw" 45 yX5_go ∈ gw_tbl := gw_T4 _ (List.mem_of_getElem? (i := 67) rfl) rfl
theorem wd_788 : Cond.instanceMethod yX5_go ∈ gw_tbl := gw_T4 _ (List.mem_of_getElem? (i := 68) rfl) rfl
theorem wd_789 : Cond.selects "LateMirrors" yX5_go yX5_go ∈ gw_tbl := gw_T4 _ (List.mem_of_getElem? (i := 69) rfl) rfl
theorem wd_790 : Cond.code yX5_go prog_1_method_11_code 4 (Option.some Jvm.ClassFile.FieldType.boolean) ∈ gw_tbl := gw_T4 _ (List.mem_of_getElem? (i := 70) rfl) rfl
theorem wd_791 : Cond.methodLinkNest "LateMirrors" 157 yX4_wayTo "LateMirrors" ∈ nw_tbl := nw_T4 _ (List.mem_of_getElem? (i := 71) rfl) rfl
theorem wd_792 : Cond.methodLinkNest "LateMirrors" 160 yX0_putMan "LateMirrors" ∈ nw_tbl := nw_T4 _ (List.mem_of_getElem? (i := 72) rfl) rfl
theorem wd_793 : Cond.privateMethod yX0_putMan ∈ lw_tbl := wd_T4 _ (List.mem_of_getElem? (i := 73) rfl)
theorem wd_794 : Cond.instanceMethod yX0_putMan ∈ gw_tbl := gw_T4 _ (List.mem_of_getElem? (i := 74) rfl) rfl
theorem wd_795 : Cond.code yX0_putMan prog_2_method_21_code 3 (Option.none : Option Jvm.ClassFile.FieldType) ∈ gw_tbl := gw_T4 _ (List.mem_of_getElem? (i := 75) rfl) rfl
theorem wd_796 : Cond.methodLink "LateMirrorsLaw" 50 yX5_raise ∈ gw_tbl := gw_T4 _ (List.mem_of_getElem? (i := 76) rfl) rfl
theorem wd_797 : Cond.instanceMethod yX5_raise ∈ gw_tbl := gw_T4 _ (List.mem_of_getElem? (i := 77) rfl) rfl
theorem wd_798 : Cond.selects "LateMirrors" yX5_raise yX5_raise ∈ gw_tbl := gw_T4 _ (List.mem_of_getElem? (i := 78) rfl) rfl
theorem wd_799 : Cond.code yX5_raise prog_1_method_12_code 3 (Option.some Jvm.ClassFile.FieldType.boolean) ∈ gw_tbl := gw_T4 _ (List.mem_of_getElem? (i := 79) rfl) rfl
theorem wd_800 : Cond.methodLink "LateMirrors" 164 yX5_isRank ∈ gw_tbl := gw_T4 _ (List.mem_of_getElem? (i := 80) rfl) rfl
theorem wd_801 : Cond.static yX5_isRank ∈ gw_tbl := gw_T4 _ (List.mem_of_getElem? (i := 81) rfl) rfl
theorem wd_802 : Cond.code yX5_isRank prog_1_method_67_code 1 (Option.some Jvm.ClassFile.FieldType.boolean) ∈ gw_tbl := gw_T4 _ (List.mem_of_getElem? (i := 82) rfl) rfl
theorem wd_803 : Cond.methodLinkNest "LateMirrors" 167 yX0_putRank "LateMirrors" ∈ nw_tbl := nw_T4 _ (List.mem_of_getElem? (i := 83) rfl) rfl
theorem wd_804 : Cond.privateMethod yX0_putRank ∈ lw_tbl := wd_T4 _ (List.mem_of_getElem? (i := 84) rfl)
theorem wd_805 : Cond.instanceMethod yX0_putRank ∈ gw_tbl := gw_T4 _ (List.mem_of_getElem? (i := 85) rfl) rfl
theorem wd_806 : Cond.code yX0_putRank prog_2_method_22_code 3 (Option.none : Option Jvm.ClassFile.FieldType) ∈ gw_tbl := gw_T4 _ (List.mem_of_getElem? (i := 86) rfl) rfl
theorem wd_807 : Cond.methodLink "LateMirrorsLaw" 54 yX5_carry ∈ gw_tbl := gw_T4 _ (List.mem_of_getElem? (i := 87) rfl) rfl
theorem wd_808 : Cond.instanceMethod yX5_carry ∈ gw_tbl := gw_T4 _ (List.mem_of_getElem? (i := 88) rfl) rfl
theorem wd_809 : Cond.selects "LateMirrors" yX5_carry yX5_carry ∈ gw_tbl := gw_T4 _ (List.mem_of_getElem? (i := 89) rfl) rfl
theorem wd_810 : Cond.code yX5_carry prog_1_method_13_code 3 (Option.some Jvm.ClassFile.FieldType.boolean) ∈ gw_tbl := gw_T4 _ (List.mem_of_getElem? (i := 90) rfl) rfl
theorem wd_811 : Cond.methodLink "LateMirrors" 170 yX5_isRoom ∈ gw_tbl := gw_T4 _ (List.mem_of_getElem? (i := 91) rfl) rfl
theorem wd_812 : Cond.privateMethod yX5_isRoom ∈ lw_tbl := wd_T4 _ (List.mem_of_getElem? (i := 92) rfl)
theorem wd_813 : Cond.instanceMethod yX5_isRoom ∈ gw_tbl := gw_T4 _ (List.mem_of_getElem? (i := 93) rfl) rfl
theorem wd_814 : Cond.code yX5_isRoom prog_1_method_65_code 2 (Option.some Jvm.ClassFile.FieldType.boolean) ∈ gw_tbl := gw_T4 _ (List.mem_of_getElem? (i := 94) rfl) rfl
theorem wd_815 : Cond.methodLinkNest "LateMirrors" 173 yX0_putMirror "LateMirrors" ∈ nw_tbl := nw_T4 _ (List.mem_of_getElem? (i := 95) rfl) rfl
theorem wd_816 : Cond.privateMethod yX0_putMirror ∈ lw_tbl := wd_T4 _ (List.mem_of_getElem? (i := 96) rfl)
theorem wd_817 : Cond.instanceMethod yX0_putMirror ∈ gw_tbl := gw_T4 _ (List.mem_of_getElem? (i := 97) rfl) rfl
theorem wd_818 : Cond.code yX0_putMirror prog_2_method_23_code 3 (Option.none : Option Jvm.ClassFile.FieldType) ∈ gw_tbl := gw_T4 _ (List.mem_of_getElem? (i := 98) rfl) rfl
theorem wd_819 : Cond.methodLink "LateMirrorsLaw" 58 yX5_turn ∈ gw_tbl := gw_T4 _ (List.mem_of_getElem? (i := 99) rfl) rfl
theorem wd_820 : Cond.instanceMethod yX5_turn ∈ gw_tbl := gw_T4 _ (List.mem_of_getElem? (i := 100) rfl) rfl
theorem wd_821 : Cond.selects "LateMirrors" yX5_turn yX5_turn ∈ gw_tbl := gw_T4 _ (List.mem_of_getElem? (i := 101) rfl) rfl
theorem wd_822 : Cond.code yX5_turn prog_1_method_14_code 3 (Option.some Jvm.ClassFile.FieldType.boolean) ∈ gw_tbl := gw_T4 _ (List.mem_of_getElem? (i := 102) rfl) rfl
theorem wd_823 : Cond.methodLinkNest "LateMirrors" 176 yX0_putWall "LateMirrors" ∈ nw_tbl := nw_T4 _ (List.mem_of_getElem? (i := 103) rfl) rfl
theorem wd_824 : Cond.privateMethod yX0_putWall ∈ lw_tbl := wd_T4 _ (List.mem_of_getElem? (i := 104) rfl)
theorem wd_825 : Cond.instanceMethod yX0_putWall ∈ gw_tbl := gw_T4 _ (List.mem_of_getElem? (i := 105) rfl) rfl
theorem wd_826 : Cond.code yX0_putWall prog_2_method_24_code 4 (Option.none : Option Jvm.ClassFile.FieldType) ∈ gw_tbl := gw_T4 _ (List.mem_of_getElem? (i := 106) rfl) rfl
theorem wd_827 : Cond.methodLink "LateMirrorsLaw" 63 yX5_smash ∈ gw_tbl := gw_T4 _ (List.mem_of_getElem? (i := 107) rfl) rfl
theorem wd_828 : Cond.instanceMethod yX5_smash ∈ gw_tbl := gw_T4 _ (List.mem_of_getElem? (i := 108) rfl) rfl
theorem wd_829 : Cond.selects "LateMirrors" yX5_smash yX5_smash ∈ gw_tbl := gw_T4 _ (List.mem_of_getElem? (i := 109) rfl) rfl
theorem wd_830 : Cond.code yX5_smash prog_1_method_15_code 2 (Option.some Jvm.ClassFile.FieldType.boolean) ∈ gw_tbl := gw_T4 _ (List.mem_of_getElem? (i := 110) rfl) rfl
theorem wd_831 : Cond.methodLinkNest "LateMirrors" 180 yX0_breakNow "LateMirrors" ∈ nw_tbl := nw_T4 _ (List.mem_of_getElem? (i := 111) rfl) rfl
theorem wd_832 : Cond.methodLink "LateMirrorsLaw" 68 yX5_undo ∈ gw_tbl := gw_T4 _ (List.mem_of_getElem? (i := 112) rfl) rfl
theorem wd_833 : Cond.instanceMethod yX5_undo ∈ gw_tbl := gw_T4 _ (List.mem_of_getElem? (i := 113) rfl) rfl
theorem wd_834 : Cond.selects "LateMirrors" yX5_undo yX5_undo ∈ gw_tbl := gw_T4 _ (List.mem_of_getElem? (i := 114) rfl) rfl
theorem wd_835 : Cond.code yX5_undo prog_1_method_16_code 1 (Option.some Jvm.ClassFile.FieldType.boolean) ∈ gw_tbl := gw_T4 _ (List.mem_of_getElem? (i := 115) rfl) rfl
theorem wd_836 : Cond.methodLinkNest "LateMirrors" 183 yX2_takeBack "LateMirrors" ∈ nw_tbl := nw_T4 _ (List.mem_of_getElem? (i := 116) rfl) rfl
theorem wd_837 : Cond.privateMethod yX2_takeBack ∈ lw_tbl := wd_T4 _ (List.mem_of_getElem? (i := 117) rfl)
theorem wd_838 : Cond.instanceMethod yX2_takeBack ∈ gw_tbl := gw_T4 _ (List.mem_of_getElem? (i := 118) rfl) rfl
theorem wd_839 : Cond.code yX2_takeBack prog_4_method_4_code 2 (Option.some Jvm.ClassFile.FieldType.boolean) ∈ gw_tbl := gw_T4 _ (List.mem_of_getElem? (i := 119) rfl) rfl
theorem wd_840 : Cond.methodLinkNest "LateMirrors$Past" 28 yX0_goBackTo "LateMirrors" ∈ nw_tbl := nw_T4 _ (List.mem_of_getElem? (i := 120) rfl) rfl
theorem wd_841 : Cond.privateMethod yX0_goBackTo ∈ lw_tbl := wd_T4 _ (List.mem_of_getElem? (i := 121) rfl)
theorem wd_842 : Cond.instanceMethod yX0_goBackTo ∈ gw_tbl := gw_T4 _ (List.mem_of_getElem? (i := 122) rfl) rfl
theorem wd_843 : Cond.code yX0_goBackTo prog_2_method_5_code 4 (Option.none : Option Jvm.ClassFile.FieldType) ∈ gw_tbl := gw_T4 _ (List.mem_of_getElem? (i := 123) rfl) rfl
theorem wd_844 : Cond.methodLink "LateMirrorsLaw" 73 yX5_look ∈ gw_tbl := gw_T4 _ (List.mem_of_getElem? (i := 124) rfl) rfl
theorem wd_845 : Cond.instanceMethod yX5_look ∈ gw_tbl := gw_T4 _ (List.mem_of_getElem? (i := 125) rfl) rfl
theorem wd_846 : Cond.selects "LateMirrors" yX5_look yX5_look ∈ gw_tbl := gw_T4 _ (List.mem_of_getElem? (i := 126) rfl) rfl
theorem wd_847 : Cond.code yX5_look prog_1_method_17_code 9 (Option.some Jvm.ClassFile.FieldType.int) ∈ gw_tbl := gw_T4 _ (List.mem_of_getElem? (i := 127) rfl) rfl
theorem wd_848 : Cond.methodLinkNest "LateMirrors" 187 yX0_seenIn "LateMirrors" ∈ nw_tbl := nw_T4 _ (List.mem_of_getElem? (i := 128) rfl) rfl
theorem wd_849 : Cond.privateMethod yX0_seenIn ∈ lw_tbl := wd_T4 _ (List.mem_of_getElem? (i := 129) rfl)
theorem wd_850 : Cond.instanceMethod yX0_seenIn ∈ gw_tbl := gw_T4 _ (List.mem_of_getElem? (i := 130) rfl) rfl
theorem wd_851 : Cond.code yX0_seenIn prog_2_method_19_code 4 (Option.some Jvm.ClassFile.FieldType.int) ∈ gw_tbl := gw_T4 _ (List.mem_of_getElem? (i := 131) rfl) rfl
theorem wd_852 : Cond.methodLinkNest "LateMirrors" 191 yX0_menIn "LateMirrors" ∈ nw_tbl := nw_T4 _ (List.mem_of_getElem? (i := 132) rfl) rfl
theorem wd_853 : Cond.methodLink "LateMirrorsLaw" 100 yX5_facing ∈ gw_tbl := gw_T4 _ (List.mem_of_getElem? (i := 133) rfl) rfl
theorem wd_854 : Cond.instanceMethod yX5_facing ∈ gw_tbl := gw_T4 _ (List.mem_of_getElem? (i := 134) rfl) rfl
theorem wd_855 : Cond.selects "LateMirrors" yX5_facing yX5_facing ∈ gw_tbl := gw_T4 _ (List.mem_of_getElem? (i := 135) rfl) rfl
theorem wd_856 : Cond.code yX5_facing prog_1_method_18_code 5 (Option.some Jvm.ClassFile.FieldType.int) ∈ gw_tbl := gw_T4 _ (List.mem_of_getElem? (i := 136) rfl) rfl
theorem wd_857 : Cond.methodLink "LateMirrors" 194 yX5_facingTimes ∈ gw_tbl := gw_T4 _ (List.mem_of_getElem? (i := 137) rfl) rfl
theorem wd_858 : Cond.privateMethod yX5_facingTimes ∈ lw_tbl := wd_T4 _ (List.mem_of_getElem? (i := 138) rfl)
theorem wd_859 : Cond.instanceMethod yX5_facingTimes ∈ gw_tbl := gw_T4 _ (List.mem_of_getElem? (i := 139) rfl) rfl
theorem wd_860 : Cond.code yX5_facingTimes prog_1_method_19_code 4 (Option.some Jvm.ClassFile.FieldType.int) ∈ gw_tbl := gw_T4 _ (List.mem_of_getElem? (i := 140) rfl) rfl
theorem wd_861 : Cond.methodLink "LateMirrors" 197 yX5_facingMinute ∈ gw_tbl := gw_T4 _ (List.mem_of_getElem? (i := 141) rfl) rfl
theorem wd_862 : Cond.privateMethod yX5_facingMinute ∈ lw_tbl := wd_T4 _ (List.mem_of_getElem? (i := 142) rfl)
theorem wd_863 : Cond.instanceMethod yX5_facingMinute ∈ gw_tbl := gw_T4 _ (List.mem_of_getElem? (i := 143) rfl) rfl
theorem wd_864 : Cond.code yX5_facingMinute prog_1_method_20_code 7 (Option.some Jvm.ClassFile.FieldType.int) ∈ gw_tbl := gw_T4 _ (List.mem_of_getElem? (i := 144) rfl) rfl
theorem wd_865 : Cond.methodLink "LateMirrorsLaw" 104 yX5_glimpses ∈ gw_tbl := gw_T4 _ (List.mem_of_getElem? (i := 145) rfl) rfl
theorem wd_866 : Cond.instanceMethod yX5_glimpses ∈ gw_tbl := gw_T4 _ (List.mem_of_getElem? (i := 146) rfl) rfl
theorem wd_867 : Cond.selects "LateMirrors" yX5_glimpses yX5_glimpses ∈ gw_tbl := gw_T4 _ (List.mem_of_getElem? (i := 147) rfl) rfl
theorem wd_868 : Cond.code yX5_glimpses prog_1_method_21_code 8 (Option.some Jvm.ClassFile.FieldType.int) ∈ gw_tbl := gw_T4 _ (List.mem_of_getElem? (i := 148) rfl) rfl
theorem wd_869 : Cond.methodLinkNest "LateMirrors" 200 yX0_menShownIn "LateMirrors" ∈ nw_tbl := nw_T4 _ (List.mem_of_getElem? (i := 149) rfl) rfl
theorem wd_870 : Cond.privateMethod yX0_menShownIn ∈ lw_tbl := wd_T4 _ (List.mem_of_getElem? (i := 150) rfl)
theorem wd_871 : Cond.instanceMethod yX0_menShownIn ∈ gw_tbl := gw_T4 _ (List.mem_of_getElem? (i := 151) rfl) rfl
theorem wd_872 : Cond.code yX0_menShownIn prog_2_method_18_code 5 (Option.some Jvm.ClassFile.FieldType.int) ∈ gw_tbl := gw_T4 _ (List.mem_of_getElem? (i := 152) rfl) rfl
theorem wd_873 : Cond.methodLink "LateMirrors$Court" 101 yX0_menShown ∈ gw_tbl := gw_T4 _ (List.mem_of_getElem? (i := 153) rfl) rfl
theorem wd_874 : Cond.methodLink "LateMirrors" 203 yX5_has ∈ gw_tbl := gw_T4 _ (List.mem_of_getElem? (i := 154) rfl) rfl
theorem wd_875 : Cond.methodLink "LateMirrorsLaw" 108 yX5_ghosts ∈ gw_tbl := gw_T4 _ (List.mem_of_getElem? (i := 155) rfl) rfl
theorem wd_876 : Cond.instanceMethod yX5_ghosts ∈ gw_tbl := gw_T4 _ (List.mem_of_getElem? (i := 156) rfl) rfl
theorem wd_877 : Cond.selects "LateMirrors" yX5_ghosts yX5_ghosts ∈ gw_tbl := gw_T4 _ (List.mem_of_getElem? (i := 157) rfl) rfl
theorem wd_878 : Cond.code yX5_ghosts prog_1_method_22_code 6 (Option.some Jvm.ClassFile.FieldType.int) ∈ gw_tbl := gw_T4 _ (List.mem_of_getElem? (i := 158) rfl) rfl
theorem wd_879 : Cond.methodLink "LateMirrorsLaw" 112 yX5_oldest ∈ gw_tbl := gw_T4 _ (List.mem_of_getElem? (i := 159) rfl) rfl
theorem wd_880 : Cond.instanceMethod yX5_oldest ∈ gw_tbl := gw_T4 _ (List.mem_of_getElem? (i := 160) rfl) rfl
theorem wd_881 : Cond.selects "LateMirrors" yX5_oldest yX5_oldest ∈ gw_tbl := gw_T4 _ (List.mem_of_getElem? (i := 161) rfl) rfl
theorem wd_882 : Cond.code yX5_oldest prog_1_method_23_code 6 (Option.some Jvm.ClassFile.FieldType.int) ∈ gw_tbl := gw_T4 _ (List.mem_of_getElem? (i := 162) rfl) rfl
theorem wd_883 : Cond.methodLink "LateMirrorsLaw" 116 yX5_shown ∈ gw_tbl := gw_T4 _ (List.mem_of_getElem? (i := 163) rfl) rfl
theorem wd_884 : Cond.instanceMethod yX5_shown ∈ gw_tbl := gw_T4 _ (List.mem_of_getElem? (i := 164) rfl) rfl
theorem wd_885 : Cond.selects "LateMirrors" yX5_shown yX5_shown ∈ gw_tbl := gw_T4 _ (List.mem_of_getElem? (i := 165) rfl) rfl
theorem wd_886 : Cond.code yX5_shown prog_1_method_24_code 9 (Option.some Jvm.ClassFile.FieldType.int) ∈ gw_tbl := gw_T4 _ (List.mem_of_getElem? (i := 166) rfl) rfl
theorem wd_887 : Cond.methodLink "LateMirrors" 209 yX5_tallyShown ∈ gw_tbl := gw_T4 _ (List.mem_of_getElem? (i := 167) rfl) rfl
theorem wd_888 : Cond.privateMethod yX5_tallyShown ∈ lw_tbl := wd_T4 _ (List.mem_of_getElem? (i := 168) rfl)
theorem wd_889 : Cond.instanceMethod yX5_tallyShown ∈ gw_tbl := gw_T4 _ (List.mem_of_getElem? (i := 169) rfl) rfl
theorem wd_890 : Cond.code yX5_tallyShown prog_1_method_25_code 4 (Option.none : Option Jvm.ClassFile.FieldType) ∈ gw_tbl := gw_T4 _ (List.mem_of_getElem? (i := 170) rfl) rfl
theorem wd_891 : Cond.methodLink "LateMirrors" 212 yX5_at ∈ gw_tbl := gw_T4 _ (List.mem_of_getElem? (i := 171) rfl) rfl
theorem wd_892 : Cond.methodLink "LateMirrors" 215 yJ9_min_7cf53 ∈ gw_tbl := gw_T4 _ (List.mem_of_getElem? (i := 172) rfl) rfl
theorem wd_893 : Cond.methodLink "LateMirrorsLaw" 120 yX5_deepest ∈ gw_tbl := gw_T4 _ (List.mem_of_getElem? (i := 173) rfl) rfl
theorem wd_894 : Cond.instanceMethod yX5_deepest ∈ gw_tbl := gw_T4 _ (List.mem_of_getElem? (i := 174) rfl) rfl
theorem wd_895 : Cond.selects "LateMirrors" yX5_deepest yX5_deepest ∈ gw_tbl := gw_T4 _ (List.mem_of_getElem? (i := 175) rfl) rfl
theorem wd_896 : Cond.code yX5_deepest prog_1_method_26_code 6 (Option.some Jvm.ClassFile.FieldType.int) ∈ gw_tbl := gw_T4 _ (List.mem_of_getElem? (i := 176) rfl) rfl
theorem wd_897 : Cond.methodLink "LateMirrors" 220 yX5_leastSeen ∈ gw_tbl := gw_T4 _ (List.mem_of_getElem? (i := 177) rfl) rfl
theorem wd_898 : Cond.static yX5_leastSeen ∈ gw_tbl := gw_T4 _ (List.mem_of_getElem? (i := 178) rfl) rfl
theorem wd_899 : Cond.code yX5_leastSeen prog_1_method_27_code 7 (Option.some Jvm.ClassFile.FieldType.int) ∈ gw_tbl := gw_T4 _ (List.mem_of_getElem? (i := 179) rfl) rfl
theorem wd_900 : Cond.methodLink "LateMirrorsLaw" 78 yX5_last ∈ gw_tbl := gw_T4 _ (List.mem_of_getElem? (i := 180) rfl) rfl
theorem wd_901 : Cond.instanceMethod yX5_last ∈ gw_tbl := gw_T4 _ (List.mem_of_getElem? (i := 181) rfl) rfl
theorem wd_902 : Cond.selects "LateMirrors" yX5_last yX5_last ∈ gw_tbl := gw_T4 _ (List.mem_of_getElem? (i := 182) rfl) rfl
theorem wd_903 : Cond.code yX5_last prog_1_method_28_code 4 (Option.some Jvm.ClassFile.FieldType.int) ∈ gw_tbl := gw_T4 _ (List.mem_of_getElem? (i := 183) rfl) rfl
theorem wd_904 : Cond.methodLink "LateMirrorsLaw" 83 yX5_visits ∈ gw_tbl := gw_T4 _ (List.mem_of_getElem? (i := 184) rfl) rfl
theorem wd_905 : Cond.instanceMethod yX5_visits ∈ gw_tbl := gw_T4 _ (List.mem_of_getElem? (i := 185) rfl) rfl
theorem wd_906 : Cond.selects "LateMirrors" yX5_visits yX5_visits ∈ gw_tbl := gw_T4 _ (List.mem_of_getElem? (i := 186) rfl) rfl
theorem wd_907 : Cond.code yX5_visits prog_1_method_29_code 7 (Option.some Jvm.ClassFile.FieldType.int) ∈ gw_tbl := gw_T4 _ (List.mem_of_getElem? (i := 187) rfl) rfl
theorem wd_908 : Cond.methodLink "LateMirrorsLaw" 87 yX5_alone ∈ gw_tbl := gw_T4 _ (List.mem_of_getElem? (i := 188) rfl) rfl
theorem wd_909 : Cond.instanceMethod yX5_alone ∈ gw_tbl := gw_T4 _ (List.mem_of_getElem? (i := 189) rfl) rfl
theorem wd_910 : Cond.selects "LateMirrors" yX5_alone yX5_alone ∈ gw_tbl := gw_T4 _ (List.mem_of_getElem? (i := 190) rfl) rfl
theorem wd_911 : Cond.code yX5_alone prog_1_method_30_code 3 (Option.some Jvm.ClassFile.FieldType.int) ∈ gw_tbl := gw_T4 _ (List.mem_of_getElem? (i := 191) rfl) rfl
theorem wd_912 : Cond.methodLink "LateMirrors" 224 yX5_aloneTimes ∈ gw_tbl := gw_T4 _ (List.mem_of_getElem? (i := 192) rfl) rfl
theorem wd_913 : Cond.privateMethod yX5_aloneTimes ∈ lw_tbl := wd_T4 _ (List.mem_of_getElem? (i := 193) rfl)
theorem wd_914 : Cond.instanceMethod yX5_aloneTimes ∈ gw_tbl := gw_T4 _ (List.mem_of_getElem? (i := 194) rfl) rfl
theorem wd_915 : Cond.code yX5_aloneTimes prog_1_method_31_code 8 (Option.some Jvm.ClassFile.FieldType.int) ∈ gw_tbl := gw_T4 _ (List.mem_of_getElem? (i := 195) rfl) rfl
theorem wd_916 : Cond.methodLink "LateMirrors" 228 yJ9_max_7cf53 ∈ gw_tbl := gw_T4 _ (List.mem_of_getElem? (i := 196) rfl) rfl
theorem wd_917 : Cond.methodLink "LateMirrorsLaw" 92 yX5_lonely ∈ gw_tbl := gw_T4 _ (List.mem_of_getElem? (i := 197) rfl) rfl
theorem wd_918 : Cond.instanceMethod yX5_lonely ∈ gw_tbl := gw_T4 _ (List.mem_of_getElem? (i := 198) rfl) rfl
theorem wd_919 : Cond.selects "LateMirrors" yX5_lonely yX5_lonely ∈ gw_tbl := gw_T4 _ (List.mem_of_getElem? (i := 199) rfl) rfl
theorem wd_920 : Cond.code yX5_lonely prog_1_method_32_code 5 (Option.some Jvm.ClassFile.FieldType.int) ∈ gw_tbl := gw_T4 _ (List.mem_of_getElem? (i := 200) rfl) rfl
theorem wd_921 : Cond.methodLink "LateMirrorsLaw" 96 yX5_together ∈ gw_tbl := gw_T4 _ (List.mem_of_getElem? (i := 201) rfl) rfl
theorem wd_922 : Cond.instanceMethod yX5_together ∈ gw_tbl := gw_T4 _ (List.mem_of_getElem? (i := 202) rfl) rfl
theorem wd_923 : Cond.selects "LateMirrors" yX5_together yX5_together ∈ gw_tbl := gw_T4 _ (List.mem_of_getElem? (i := 203) rfl) rfl
theorem wd_924 : Cond.code yX5_together prog_1_method_33_code 7 (Option.some Jvm.ClassFile.FieldType.int) ∈ gw_tbl := gw_T4 _ (List.mem_of_getElem? (i := 204) rfl) rfl
theorem wd_925 : Cond.methodLink "LateMirrorsLaw" 124 yX5_crowd ∈ gw_tbl := gw_T4 _ (List.mem_of_getElem? (i := 205) rfl) rfl
theorem wd_926 : Cond.instanceMethod yX5_crowd ∈ gw_tbl := gw_T4 _ (List.mem_of_getElem? (i := 206) rfl) rfl
theorem wd_927 : Cond.selects "LateMirrors" yX5_crowd yX5_crowd ∈ gw_tbl := gw_T4 _ (List.mem_of_getElem? (i := 207) rfl) rfl
theorem wd_928 : Cond.code yX5_crowd prog_1_method_34_code 7 (Option.some Jvm.ClassFile.FieldType.int) ∈ gw_tbl := gw_T4 _ (List.mem_of_getElem? (i := 208) rfl) rfl
theorem wd_929 : Cond.methodLink "LateMirrors" 237 yJ6_bitCount_0f7a4 ∈ gw_tbl := gw_T4 _ (List.mem_of_getElem? (i := 209) rfl) rfl
theorem wd_930 : Cond.methodLink "LateMirrorsLaw" 128 yX5_rankFor ∈ gw_tbl := gw_T4 _ (List.mem_of_getElem? (i := 210) rfl) rfl
theorem wd_931 : Cond.instanceMethod yX5_rankFor ∈ gw_tbl := gw_T4 _ (List.mem_of_getElem? (i := 211) rfl) rfl
theorem wd_932 : Cond.selects "LateMirrors" yX5_rankFor yX5_rankFor ∈ gw_tbl := gw_T4 _ (List.mem_of_getElem? (i := 212) rfl) rfl
theorem wd_933 : Cond.code yX5_rankFor prog_1_method_35_code 5 (Option.some Jvm.ClassFile.FieldType.int) ∈ gw_tbl := gw_T4 _ (List.mem_of_getElem? (i := 213) rfl) rfl
theorem wd_934 : Cond.methodLinkNest "LateMirrors" 243 yX0_lateWith "LateMirrors" ∈ nw_tbl := nw_T4 _ (List.mem_of_getElem? (i := 214) rfl) rfl
theorem wd_935 : Cond.methodLink "LateMirrorsLaw" 156 yX5_jolt ∈ gw_tbl := gw_T4 _ (List.mem_of_getElem? (i := 215) rfl) rfl
theorem wd_936 : Cond.instanceMethod yX5_jolt ∈ gw_tbl := gw_T4 _ (List.mem_of_getElem? (i := 216) rfl) rfl
theorem wd_937 : Cond.selects "LateMirrors" yX5_jolt yX5_jolt ∈ gw_tbl := gw_T4 _ (List.mem_of_getElem? (i := 217) rfl) rfl
theorem wd_938 : Cond.code yX5_jolt prog_1_method_36_code 10 (Option.some Jvm.ClassFile.FieldType.int) ∈ gw_tbl := gw_T4 _ (List.mem_of_getElem? (i := 218) rfl) rfl
theorem wd_939 : Cond.methodLinkNest "LateMirrors" 246 yX4_ownerOf "LateMirrors" ∈ nw_tbl := nw_T4 _ (List.mem_of_getElem? (i := 219) rfl) rfl
theorem wd_940 : Cond.methodLink "LateMirrorsLaw" 144 yX5_still ∈ gw_tbl := gw_T4 _ (List.mem_of_getElem? (i := 220) rfl) rfl
theorem wd_941 : Cond.instanceMethod yX5_still ∈ gw_tbl := gw_T4 _ (List.mem_of_getElem? (i := 221) rfl) rfl
theorem wd_942 : Cond.selects "LateMirrors" yX5_still yX5_still ∈ gw_tbl := gw_T4 _ (List.mem_of_getElem? (i := 222) rfl) rfl
theorem wd_943 : Cond.code yX5_still prog_1_method_37_code 5 (Option.some Jvm.ClassFile.FieldType.int) ∈ gw_tbl := gw_T4 _ (List.mem_of_getElem? (i := 223) rfl) rfl
theorem wd_944 : Cond.methodLink "LateMirrors" 249 yX5_forecast ∈ gw_tbl := gw_T4 _ (List.mem_of_getElem? (i := 224) rfl) rfl
theorem wd_945 : Cond.privateMethod yX5_forecast ∈ lw_tbl := wd_T4 _ (List.mem_of_getElem? (i := 225) rfl)
theorem wd_946 : Cond.instanceMethod yX5_forecast ∈ gw_tbl := gw_T4 _ (List.mem_of_getElem? (i := 226) rfl) rfl
theorem wd_947 : Cond.code yX5_forecast prog_1_method_44_code 2 (Option.none : Option Jvm.ClassFile.FieldType) ∈ gw_tbl := gw_T4 _ (List.mem_of_getElem? (i := 227) rfl) rfl
theorem wd_948 : Cond.methodLinkNest "LateMirrors" 267 yX0_copyOf "LateMirrors" ∈ nw_tbl := nw_T4 _ (List.mem_of_getElem? (i := 228) rfl) rfl
theorem wd_949 : Cond.privateMethod yX0_copyOf ∈ lw_tbl := wd_T4 _ (List.mem_of_getElem? (i := 229) rfl)
theorem wd_950 : Cond.instanceMethod yX0_copyOf ∈ gw_tbl := gw_T4 _ (List.mem_of_getElem? (i := 230) rfl) rfl
theorem wd_951 : Cond.code yX0_copyOf prog_2_method_3_code 3 (Option.none : Option Jvm.ClassFile.FieldType) ∈ gw_tbl := gw_T4 _ (List.mem_of_getElem? (i := 231) rfl) rfl
theorem wd_952 : Cond.methodLink "LateMirrors" 252 yX5_showersOf ∈ gw_tbl := gw_T4 _ (List.mem_of_getElem? (i := 232) rfl) rfl
theorem wd_953 : Cond.privateMethod yX5_showersOf ∈ lw_tbl := wd_T4 _ (List.mem_of_getElem? (i := 233) rfl)
theorem wd_954 : Cond.instanceMethod yX5_showersOf ∈ gw_tbl := gw_T4 _ (List.mem_of_getElem? (i := 234) rfl) rfl
theorem wd_955 : Cond.code yX5_showersOf prog_1_method_45_code 6 (Option.some Jvm.ClassFile.FieldType.int) ∈ gw_tbl := gw_T4 _ (List.mem_of_getElem? (i := 235) rfl) rfl
theorem wd_956 : Cond.methodLink "LateMirrorsLaw" 148 yX5_soonest ∈ gw_tbl := gw_T4 _ (List.mem_of_getElem? (i := 236) rfl) rfl
theorem wd_957 : Cond.instanceMethod yX5_soonest ∈ gw_tbl := gw_T4 _ (List.mem_of_getElem? (i := 237) rfl) rfl
theorem wd_958 : Cond.selects "LateMirrors" yX5_soonest yX5_soonest ∈ gw_tbl := gw_T4 _ (List.mem_of_getElem? (i := 238) rfl) rfl
theorem wd_959 : Cond.code yX5_soonest prog_1_method_38_code 6 (Option.some Jvm.ClassFile.FieldType.int) ∈ gw_tbl := gw_T4 _ (List.mem_of_getElem? (i := 239) rfl) rfl
theorem wd_960 : Cond.methodLink "LateMirrors" 255 yX5_firstOf ∈ gw_tbl := gw_T5 _ (List.mem_of_getElem? (i := 0) rfl) rfl
theorem wd_961 : Cond.static yX5_firstOf ∈ gw_tbl := gw_T5 _ (List.mem_of_getElem? (i := 1) rfl) rfl
theorem wd_962 : Cond.code yX5_firstOf prog_1_method_70_code 2 (Option.some Jvm.ClassFile.FieldType.int) ∈ gw_tbl := gw_T5 _ (List.mem_of_getElem? (i := 2) rfl) rfl
theorem wd_963 : Cond.methodLink "LateMirrorsLaw" 132 yX5_view ∈ gw_tbl := gw_T5 _ (List.mem_of_getElem? (i := 3) rfl) rfl
theorem wd_964 : Cond.instanceMethod yX5_view ∈ gw_tbl := gw_T5 _ (List.mem_of_getElem? (i := 4) rfl) rfl
theorem wd_965 : Cond.selects "LateMirrors" yX5_view yX5_view ∈ gw_tbl := gw_T5 _ (List.mem_of_getElem? (i := 5) rfl) rfl
theorem wd_966 : Cond.code yX5_view prog_1_method_39_code 7 (Option.some Jvm.ClassFile.FieldType.int) ∈ gw_tbl := gw_T5 _ (List.mem_of_getElem? (i := 6) rfl) rfl
theorem wd_967 : Cond.methodLink "LateMirrors" 258 yX5_countSteps ∈ gw_tbl := gw_T5 _ (List.mem_of_getElem? (i := 7) rfl) rfl
theorem wd_968 : Cond.privateMethod yX5_countSteps ∈ lw_tbl := wd_T5 _ (List.mem_of_getElem? (i := 8) rfl)
theorem wd_969 : Cond.instanceMethod yX5_countSteps ∈ gw_tbl := gw_T5 _ (List.mem_of_getElem? (i := 9) rfl) rfl
theorem wd_970 : Cond.code yX5_countSteps prog_1_method_51_code 7 (Option.none : Option Jvm.ClassFile.FieldType) ∈ gw_tbl := gw_T5 _ (List.mem_of_getElem? (i := 10) rfl) rfl
theorem wd_971 : Cond.methodLinkNest "LateMirrors" 290 yX4_doorEnd "LateMirrors" ∈ nw_tbl := nw_T5 _ (List.mem_of_getElem? (i := 11) rfl) rfl
theorem wd_972 : Cond.privateMethod yX4_doorEnd ∈ lw_tbl := wd_T5 _ (List.mem_of_getElem? (i := 12) rfl)
theorem wd_973 : Cond.instanceMethod yX4_doorEnd ∈ gw_tbl := gw_T5 _ (List.mem_of_getElem? (i := 13) rfl) rfl
theorem wd_974 : Cond.code yX4_doorEnd prog_6_method_14_code 3 (Option.some Jvm.ClassFile.FieldType.int) ∈ gw_tbl := gw_T5 _ (List.mem_of_getElem? (i := 14) rfl) rfl
theorem wd_975 : Cond.methodLink "LateMirrors" 261 yX5_mirrorsInReach ∈ gw_tbl := gw_T5 _ (List.mem_of_getElem? (i := 15) rfl) rfl
theorem wd_976 : Cond.privateMethod yX5_mirrorsInReach ∈ lw_tbl := wd_T5 _ (List.mem_of_getElem? (i := 16) rfl)
theorem wd_977 : Cond.instanceMethod yX5_mirrorsInReach ∈ gw_tbl := gw_T5 _ (List.mem_of_getElem? (i := 17) rfl) rfl
theorem wd_978 : Cond.code yX5_mirrorsInReach prog_1_method_40_code 4 (Option.some Jvm.ClassFile.FieldType.int) ∈ gw_tbl := gw_T5 _ (List.mem_of_getElem? (i := 18) rfl) rfl
theorem wd_979 : Cond.methodLink "LateMirrorsLaw" 136 yX5_willBe ∈ gw_tbl := gw_T5 _ (List.mem_of_getElem? (i := 19) rfl) rfl
theorem wd_980 : Cond.instanceMethod yX5_willBe ∈ gw_tbl := gw_T5 _ (List.mem_of_getElem? (i := 20) rfl) rfl
theorem wd_981 : Cond.selects "LateMirrors" yX5_willBe yX5_willBe ∈ gw_tbl := gw_T5 _ (List.mem_of_getElem? (i := 21) rfl) rfl
theorem wd_982 : Cond.code yX5_willBe prog_1_method_41_code 4 (Option.some Jvm.ClassFile.FieldType.int) ∈ gw_tbl := gw_T5 _ (List.mem_of_getElem? (i := 22) rfl) rfl
theorem wd_983 : Cond.methodLink "LateMirrorsLaw" 152 yX5_seen ∈ gw_tbl := gw_T5 _ (List.mem_of_getElem? (i := 23) rfl) rfl
theorem wd_984 : Cond.instanceMethod yX5_seen ∈ gw_tbl := gw_T5 _ (List.mem_of_getElem? (i := 24) rfl) rfl
theorem wd_985 : Cond.selects "LateMirrors" yX5_seen yX5_seen ∈ gw_tbl := gw_T5 _ (List.mem_of_getElem? (i := 25) rfl) rfl
theorem wd_986 : Cond.code yX5_seen prog_1_method_42_code 6 (Option.some Jvm.ClassFile.FieldType.int) ∈ gw_tbl := gw_T5 _ (List.mem_of_getElem? (i := 26) rfl) rfl
theorem wd_987 : Cond.methodLink "LateMirrors" 264 yX5_mirrorsWith ∈ gw_tbl := gw_T5 _ (List.mem_of_getElem? (i := 27) rfl) rfl
theorem wd_988 : Cond.privateMethod yX5_mirrorsWith ∈ lw_tbl := wd_T5 _ (List.mem_of_getElem? (i := 28) rfl)
theorem wd_989 : Cond.instanceMethod yX5_mirrorsWith ∈ gw_tbl := gw_T5 _ (List.mem_of_getElem? (i := 29) rfl) rfl
theorem wd_990 : Cond.code yX5_mirrorsWith prog_1_method_46_code 5 (Option.some Jvm.ClassFile.FieldType.int) ∈ gw_tbl := gw_T5 _ (List.mem_of_getElem? (i := 30) rfl) rfl
theorem wd_991 : Cond.methodLink "LateMirrorsLaw" 168 yX5_turned ∈ gw_tbl := gw_T5 _ (List.mem_of_getElem? (i := 31) rfl) rfl
theorem wd_992 : Cond.instanceMethod yX5_turned ∈ gw_tbl := gw_T5 _ (List.mem_of_getElem? (i := 32) rfl) rfl
theorem wd_993 : Cond.selects "LateMirrors" yX5_turned yX5_turned ∈ gw_tbl := gw_T5 _ (List.mem_of_getElem? (i := 33) rfl) rfl
theorem wd_994 : Cond.code yX5_turned prog_1_method_43_code 5 (Option.some Jvm.ClassFile.FieldType.int) ∈ gw_tbl := gw_T5 _ (List.mem_of_getElem? (i := 34) rfl) rfl
theorem wd_995 : Cond.methodLink "LateMirrorsLaw" 172 yX5_odds ∈ gw_tbl := gw_T5 _ (List.mem_of_getElem? (i := 35) rfl) rfl
theorem wd_996 : Cond.instanceMethod yX5_odds ∈ gw_tbl := gw_T5 _ (List.mem_of_getElem? (i := 36) rfl) rfl
theorem wd_997 : Cond.selects "LateMirrors" yX5_odds yX5_odds ∈ gw_tbl := gw_T5 _ (List.mem_of_getElem? (i := 37) rfl) rfl
theorem wd_998 : Cond.code yX5_odds prog_1_method_47_code 7 (Option.some Jvm.ClassFile.FieldType.int) ∈ gw_tbl := gw_T5 _ (List.mem_of_getElem? (i := 38) rfl) rfl
theorem wd_999 : Cond.methodLink "LateMirrors" 273 yX5_breaksBy ∈ gw_tbl := gw_T5 _ (List.mem_of_getElem? (i := 39) rfl) rfl
theorem wd_1000 : Cond.privateMethod yX5_breaksBy ∈ lw_tbl := wd_T5 _ (List.mem_of_getElem? (i := 40) rfl)
theorem wd_1001 : Cond.instanceMethod yX5_breaksBy ∈ gw_tbl := gw_T5 _ (List.mem_of_getElem? (i := 41) rfl) rfl
theorem wd_1002 : Cond.code yX5_breaksBy prog_1_method_48_code 5 (Option.some Jvm.ClassFile.FieldType.boolean) ∈ gw_tbl := gw_T5 _ (List.mem_of_getElem? (i := 42) rfl) rfl
theorem wd_1003 : Cond.methodLinkNest "LateMirrors" 277 yX4_breaksAt "LateMirrors" ∈ nw_tbl := nw_T5 _ (List.mem_of_getElem? (i := 43) rfl) rfl
theorem wd_1004 : Cond.methodLink "LateMirrorsLaw" 160 yX5_hidden ∈ gw_tbl := gw_T5 _ (List.mem_of_getElem? (i := 44) rfl) rfl
theorem wd_1005 : Cond.instanceMethod yX5_hidden ∈ gw_tbl := gw_T5 _ (List.mem_of_getElem? (i := 45) rfl) rfl
theorem wd_1006 : Cond.selects "LateMirrors" yX5_hidden yX5_hidden ∈ gw_tbl := gw_T5 _ (List.mem_of_getElem? (i := 46) rfl) rfl
theorem wd_1007 : Cond.code yX5_hidden prog_1_method_49_code 5 (Option.some Jvm.ClassFile.FieldType.int) ∈ gw_tbl := gw_T5 _ (List.mem_of_getElem? (i := 47) rfl) rfl
theorem wd_1008 : Cond.methodLinkNest "LateMirrors" 280 yX0_darkRooms "LateMirrors" ∈ nw_tbl := nw_T5 _ (List.mem_of_getElem? (i := 48) rfl) rfl
theorem wd_1009 : Cond.privateMethod yX0_darkRooms ∈ lw_tbl := wd_T5 _ (List.mem_of_getElem? (i := 49) rfl)
theorem wd_1010 : Cond.instanceMethod yX0_darkRooms ∈ gw_tbl := gw_T5 _ (List.mem_of_getElem? (i := 50) rfl) rfl
theorem wd_1011 : Cond.code yX0_darkRooms prog_2_method_20_code 3 (Option.some Jvm.ClassFile.FieldType.int) ∈ gw_tbl := gw_T5 _ (List.mem_of_getElem? (i := 51) rfl) rfl
theorem wd_1012 : Cond.methodLink "LateMirrors" 284 yX5_nextRoom ∈ gw_tbl := gw_T5 _ (List.mem_of_getElem? (i := 52) rfl) rfl
theorem wd_1013 : Cond.privateMethod yX5_nextRoom ∈ lw_tbl := wd_T5 _ (List.mem_of_getElem? (i := 53) rfl)
theorem wd_1014 : Cond.instanceMethod yX5_nextRoom ∈ gw_tbl := gw_T5 _ (List.mem_of_getElem? (i := 54) rfl) rfl
theorem wd_1015 : Cond.code yX5_nextRoom prog_1_method_50_code 5 (Option.some Jvm.ClassFile.FieldType.int) ∈ gw_tbl := gw_T5 _ (List.mem_of_getElem? (i := 55) rfl) rfl
theorem wd_1016 : Cond.methodLink "LateMirrorsLaw" 164 yX5_stand ∈ gw_tbl := gw_T5 _ (List.mem_of_getElem? (i := 56) rfl) rfl
theorem wd_1017 : Cond.instanceMethod yX5_stand ∈ gw_tbl := gw_T5 _ (List.mem_of_getElem? (i := 57) rfl) rfl
theorem wd_1018 : Cond.selects "LateMirrors" yX5_stand yX5_stand ∈ gw_tbl := gw_T5 _ (List.mem_of_getElem? (i := 58) rfl) rfl
theorem wd_1019 : Cond.code yX5_stand prog_1_method_52_code 6 (Option.some Jvm.ClassFile.FieldType.int) ∈ gw_tbl := gw_T5 _ (List.mem_of_getElem? (i := 59) rfl) rfl
theorem wd_1020 : Cond.methodLink "LateMirrorsLaw" 140 yX5_rests ∈ gw_tbl := gw_T5 _ (List.mem_of_getElem? (i := 60) rfl) rfl
theorem wd_1021 : Cond.instanceMethod yX5_rests ∈ gw_tbl := gw_T5 _ (List.mem_of_getElem? (i := 61) rfl) rfl
theorem wd_1022 : Cond.selects "LateMirrors" yX5_rests yX5_rests ∈ gw_tbl := gw_T5 _ (List.mem_of_getElem? (i := 62) rfl) rfl
theorem wd_1023 : Cond.code yX5_rests prog_1_method_53_code 8 (Option.some Jvm.ClassFile.FieldType.int) ∈ gw_tbl := gw_T5 _ (List.mem_of_getElem? (i := 63) rfl) rfl
theorem wd_1024 : Cond.methodLink "LateMirrors" 293 yX5_isRest ∈ gw_tbl := gw_T5 _ (List.mem_of_getElem? (i := 64) rfl) rfl
theorem wd_1025 : Cond.privateMethod yX5_isRest ∈ lw_tbl := wd_T5 _ (List.mem_of_getElem? (i := 65) rfl)
theorem wd_1026 : Cond.instanceMethod yX5_isRest ∈ gw_tbl := gw_T5 _ (List.mem_of_getElem? (i := 66) rfl) rfl
theorem wd_1027 : Cond.code yX5_isRest prog_1_method_54_code 4 (Option.some Jvm.ClassFile.FieldType.boolean) ∈ gw_tbl := gw_T5 _ (List.mem_of_getElem? (i := 67) rfl) rfl
theorem wd_1028 : Cond.methodLink "LateMirrors" 296 yX5_worth ∈ gw_tbl := gw_T5 _ (List.mem_of_getElem? (i := 68) rfl) rfl
theorem wd_1029 : Cond.privateMethod yX5_worth ∈ lw_tbl := wd_T5 _ (List.mem_of_getElem? (i := 69) rfl)
theorem wd_1030 : Cond.instanceMethod yX5_worth ∈ gw_tbl := gw_T5 _ (List.mem_of_getElem? (i := 70) rfl) rfl
theorem wd_1031 : Cond.code yX5_worth prog_1_method_55_code 3 (Option.some Jvm.ClassFile.FieldType.int) ∈ gw_tbl := gw_T5 _ (List.mem_of_getElem? (i := 71) rfl) rfl
theorem wd_1032 : Cond.methodLink "LateMirrorsLaw" 176 yX5_tell ∈ gw_tbl := gw_T5 _ (List.mem_of_getElem? (i := 72) rfl) rfl
theorem wd_1033 : Cond.instanceMethod yX5_tell ∈ gw_tbl := gw_T5 _ (List.mem_of_getElem? (i := 73) rfl) rfl
theorem wd_1034 : Cond.selects "LateMirrors" yX5_tell yX5_tell ∈ gw_tbl := gw_T5 _ (List.mem_of_getElem? (i := 74) rfl) rfl
theorem wd_1035 : Cond.code yX5_tell prog_1_method_56_code 7 (Option.some Jvm.ClassFile.FieldType.int) ∈ gw_tbl := gw_T5 _ (List.mem_of_getElem? (i := 75) rfl) rfl
theorem wd_1036 : Cond.methodLink "LateMirrorsLaw" 181 yX5_forget ∈ gw_tbl := gw_T5 _ (List.mem_of_getElem? (i := 76) rfl) rfl
theorem wd_1037 : Cond.instanceMethod yX5_forget ∈ gw_tbl := gw_T5 _ (List.mem_of_getElem? (i := 77) rfl) rfl
theorem wd_1038 : Cond.selects "LateMirrors" yX5_forget yX5_forget ∈ gw_tbl := gw_T5 _ (List.mem_of_getElem? (i := 78) rfl) rfl
theorem wd_1039 : Cond.code yX5_forget prog_1_method_57_code 2 (Option.some Jvm.ClassFile.FieldType.int) ∈ gw_tbl := gw_T5 _ (List.mem_of_getElem? (i := 79) rfl) rfl
theorem wd_1040 : Cond.methodLink "LateMirrorsLaw" 185 yX5_began ∈ gw_tbl := gw_T5 _ (List.mem_of_getElem? (i := 80) rfl) rfl
theorem wd_1041 : Cond.instanceMethod yX5_began ∈ gw_tbl := gw_T5 _ (List.mem_of_getElem? (i := 81) rfl) rfl
theorem wd_1042 : Cond.selects "LateMirrors" yX5_began yX5_began ∈ gw_tbl := gw_T5 _ (List.mem_of_getElem? (i := 82) rfl) rfl
theorem wd_1043 : Cond.code yX5_began prog_1_method_58_code 6 (Option.some Jvm.ClassFile.FieldType.int) ∈ gw_tbl := gw_T5 _ (List.mem_of_getElem? (i := 83) rfl) rfl
theorem wd_1044 : Cond.methodLink "LateMirrors" 299 yX5_canHaveBegun ∈ gw_tbl := gw_T5 _ (List.mem_of_getElem? (i := 84) rfl) rfl
theorem wd_1045 : Cond.privateMethod yX5_canHaveBegun ∈ lw_tbl := wd_T5 _ (List.mem_of_getElem? (i := 85) rfl)
theorem wd_1046 : Cond.instanceMethod yX5_canHaveBegun ∈ gw_tbl := gw_T5 _ (List.mem_of_getElem? (i := 86) rfl) rfl
theorem wd_1047 : Cond.code yX5_canHaveBegun prog_1_method_59_code 8 (Option.some Jvm.ClassFile.FieldType.boolean) ∈ gw_tbl := gw_T5 _ (List.mem_of_getElem? (i := 87) rfl) rfl
theorem wd_1048 : Cond.methodLink "LateMirrorsLaw" 189 yX5_hold ∈ gw_tbl := gw_T5 _ (List.mem_of_getElem? (i := 88) rfl) rfl
theorem wd_1049 : Cond.instanceMethod yX5_hold ∈ gw_tbl := gw_T5 _ (List.mem_of_getElem? (i := 89) rfl) rfl
theorem wd_1050 : Cond.selects "LateMirrors" yX5_hold yX5_hold ∈ gw_tbl := gw_T5 _ (List.mem_of_getElem? (i := 90) rfl) rfl
theorem wd_1051 : Cond.code yX5_hold prog_1_method_60_code 2 (Option.some Jvm.ClassFile.FieldType.boolean) ∈ gw_tbl := gw_T5 _ (List.mem_of_getElem? (i := 91) rfl) rfl
theorem wd_1052 : Cond.methodLink "LateMirrorsLaw" 193 yX5_restore ∈ gw_tbl := gw_T5 _ (List.mem_of_getElem? (i := 92) rfl) rfl
theorem wd_1053 : Cond.instanceMethod yX5_restore ∈ gw_tbl := gw_T5 _ (List.mem_of_getElem? (i := 93) rfl) rfl
theorem wd_1054 : Cond.selects "LateMirrors" yX5_restore yX5_restore ∈ gw_tbl := gw_T5 _ (List.mem_of_getElem? (i := 94) rfl) rfl
theorem wd_1055 : Cond.code yX5_restore prog_1_method_61_code 2 (Option.some Jvm.ClassFile.FieldType.boolean) ∈ gw_tbl := gw_T5 _ (List.mem_of_getElem? (i := 95) rfl) rfl
theorem wd_1056 : Cond.methodLink "LateMirrorsLaw" 197 yX5_count ∈ gw_tbl := gw_T5 _ (List.mem_of_getElem? (i := 96) rfl) rfl
theorem wd_1057 : Cond.instanceMethod yX5_count ∈ gw_tbl := gw_T5 _ (List.mem_of_getElem? (i := 97) rfl) rfl
theorem wd_1058 : Cond.selects "LateMirrors" yX5_count yX5_count ∈ gw_tbl := gw_T5 _ (List.mem_of_getElem? (i := 98) rfl) rfl
theorem wd_1059 : Cond.code yX5_count prog_1_method_62_code 2 (Option.some Jvm.ClassFile.FieldType.int) ∈ gw_tbl := gw_T5 _ (List.mem_of_getElem? (i := 99) rfl) rfl
theorem wd_1060 : Cond.methodLinkNest "LateMirrors" 302 yX0_brokenOnes "LateMirrors" ∈ nw_tbl := nw_T5 _ (List.mem_of_getElem? (i := 100) rfl) rfl
theorem wd_1061 : Cond.privateMethod yX0_brokenOnes ∈ lw_tbl := wd_T5 _ (List.mem_of_getElem? (i := 101) rfl)
theorem wd_1062 : Cond.instanceMethod yX0_brokenOnes ∈ gw_tbl := gw_T5 _ (List.mem_of_getElem? (i := 102) rfl) rfl
theorem wd_1063 : Cond.code yX0_brokenOnes prog_2_method_13_code 3 (Option.some Jvm.ClassFile.FieldType.int) ∈ gw_tbl := gw_T5 _ (List.mem_of_getElem? (i := 103) rfl) rfl
theorem wd_1064 : Cond.methodLinkNest "LateMirrors" 305 yX0_turnedOnes "LateMirrors" ∈ nw_tbl := nw_T5 _ (List.mem_of_getElem? (i := 104) rfl) rfl
theorem wd_1065 : Cond.privateMethod yX0_turnedOnes ∈ lw_tbl := wd_T5 _ (List.mem_of_getElem? (i := 105) rfl)
theorem wd_1066 : Cond.instanceMethod yX0_turnedOnes ∈ gw_tbl := gw_T5 _ (List.mem_of_getElem? (i := 106) rfl) rfl
theorem wd_1067 : Cond.code yX0_turnedOnes prog_2_method_12_code 1 (Option.some Jvm.ClassFile.FieldType.int) ∈ gw_tbl := gw_T5 _ (List.mem_of_getElem? (i := 107) rfl) rfl
theorem wd_1068 : Cond.classLink "LateMirrorsLaw" 10 "LateMirrorsModel" ∈ gw_tbl := gw_T5 _ (List.mem_of_getElem? (i := 108) rfl) rfl
theorem wd_1069 : Cond.instantiable "LateMirrorsModel" 75 ∈ gw_tbl := gw_T5 _ (List.mem_of_getElem? (i := 109) rfl) rfl
theorem wd_1070 : Cond.methodLink "LateMirrorsLaw" 12 yX6_init ∈ gw_tbl := gw_T5 _ (List.mem_of_getElem? (i := 110) rfl) rfl
theorem wd_1071 : Cond.instanceMethod yX6_init ∈ gw_tbl := gw_T5 _ (List.mem_of_getElem? (i := 111) rfl) rfl
theorem wd_1072 : Cond.code yX6_init prog_8_method_2_code 1 (Option.none : Option Jvm.ClassFile.FieldType) ∈ gw_tbl := gw_T5 _ (List.mem_of_getElem? (i := 112) rfl) rfl
theorem wd_1073 : Cond.methodLink "LateMirrorsModel" 7 (⟨"java/lang/Object", "<init>", "()V"⟩ : MethodName) ∈ gw_tbl := gw_T5 _ (List.mem_of_getElem? (i := 113) rfl) rfl
theorem wd_1074 : Cond.methodLink "LateMirrorsModel" 176 yX6_plain ∈ gw_tbl := gw_T5 _ (List.mem_of_getElem? (i := 114) rfl) rfl
theorem wd_1075 : Cond.privateMethod yX6_plain ∈ lw_tbl := wd_T5 _ (List.mem_of_getElem? (i := 115) rfl)
theorem wd_1076 : Cond.instanceMethod yX6_plain ∈ gw_tbl := gw_T5 _ (List.mem_of_getElem? (i := 116) rfl) rfl
theorem wd_1077 : Cond.code yX6_plain prog_8_method_19_code 3 (Option.none : Option Jvm.ClassFile.FieldType) ∈ gw_tbl := gw_T5 _ (List.mem_of_getElem? (i := 117) rfl) rfl
theorem wd_1078 : Cond.methodLink "LateMirrorsModel" 180 yX6_word ∈ gw_tbl := gw_T5 _ (List.mem_of_getElem? (i := 118) rfl) rfl
theorem wd_1079 : Cond.static yX6_word ∈ gw_tbl := gw_T5 _ (List.mem_of_getElem? (i := 119) rfl) rfl
theorem wd_1080 : Cond.code yX6_word prog_8_method_10_code 7 (Option.some Jvm.ClassFile.FieldType.long) ∈ gw_tbl := gw_T5 _ (List.mem_of_getElem? (i := 120) rfl) rfl
theorem wd_1081 : Cond.methodLink "LateMirrorsModel" 201 yX6_appends ∈ gw_tbl := gw_T5 _ (List.mem_of_getElem? (i := 121) rfl) rfl
theorem wd_1082 : Cond.static yX6_appends ∈ gw_tbl := gw_T5 _ (List.mem_of_getElem? (i := 122) rfl) rfl
theorem wd_1083 : Cond.code yX6_appends prog_8_method_9_code 3 (Option.some Jvm.ClassFile.FieldType.long) ∈ gw_tbl := gw_T5 _ (List.mem_of_getElem? (i := 123) rfl) rfl
theorem wd_1084 : Cond.constantLong "LateMirrorsModel" 199 (27 : Int64) ∈ gw_tbl := gw_T5 _ (List.mem_of_getElem? (i := 124) rfl) rfl
theorem wd_1085 : Cond.methodLink "LateMirrorsModel" 184 yX6_begins ∈ gw_tbl := gw_T5 _ (List.mem_of_getElem? (i := 125) rfl) rfl
theorem wd_1086 : Cond.privateMethod yX6_begins ∈ lw_tbl := wd_T5 _ (List.mem_of_getElem? (i := 126) rfl)
theorem wd_1087 : Cond.instanceMethod yX6_begins ∈ gw_tbl := gw_T5 _ (List.mem_of_getElem? (i := 127) rfl) rfl
theorem wd_1088 : Cond.code yX6_begins prog_8_method_44_code 1 (Option.none : Option Jvm.ClassFile.FieldType) ∈ gw_tbl := gw_T5 _ (List.mem_of_getElem? (i := 128) rfl) rfl
theorem wd_1089 : Cond.methodLink "LateMirrorsModel" 357 yX6_beginsWith ∈ gw_tbl := gw_T5 _ (List.mem_of_getElem? (i := 129) rfl) rfl
theorem wd_1090 : Cond.privateMethod yX6_beginsWith ∈ lw_tbl := wd_T5 _ (List.mem_of_getElem? (i := 130) rfl)
theorem wd_1091 : Cond.instanceMethod yX6_beginsWith ∈ gw_tbl := gw_T5 _ (List.mem_of_getElem? (i := 131) rfl) rfl
theorem wd_1092 : Cond.code yX6_beginsWith prog_8_method_43_code 4 (Option.none : Option Jvm.ClassFile.FieldType) ∈ gw_tbl := gw_T5 _ (List.mem_of_getElem? (i := 132) rfl) rfl
theorem wd_1093 : Cond.methodLink "LateMirrorsModel" 354 yX6_fillsLate ∈ gw_tbl := gw_T5 _ (List.mem_of_getElem? (i := 133) rfl) rfl
theorem wd_1094 : Cond.privateMethod yX6_fillsLate ∈ lw_tbl := wd_T5 _ (List.mem_of_getElem? (i := 134) rfl)
theorem wd_1095 : Cond.instanceMethod yX6_fillsLate ∈ gw_tbl := gw_T5 _ (List.mem_of_getElem? (i := 135) rfl) rfl
theorem wd_1096 : Cond.code yX6_fillsLate prog_8_method_54_code 2 (Option.none : Option Jvm.ClassFile.FieldType) ∈ gw_tbl := gw_T5 _ (List.mem_of_getElem? (i := 136) rfl) rfl
theorem wd_1097 : Cond.methodLink "LateMirrorsModel" 375 yX6_rankOfOwner ∈ gw_tbl := gw_T5 _ (List.mem_of_getElem? (i := 137) rfl) rfl
theorem wd_1098 : Cond.privateMethod yX6_rankOfOwner ∈ lw_tbl := wd_T5 _ (List.mem_of_getElem? (i := 138) rfl)
theorem wd_1099 : Cond.instanceMethod yX6_rankOfOwner ∈ gw_tbl := gw_T5 _ (List.mem_of_getElem? (i := 139) rfl) rfl
theorem wd_1100 : Cond.code yX6_rankOfOwner prog_8_method_53_code 2 (Option.some Jvm.ClassFile.FieldType.int) ∈ gw_tbl := gw_T5 _ (List.mem_of_getElem? (i := 140) rfl) rfl
theorem wd_1101 : Cond.methodLink "LateMirrorsModel" 378 yX6_lateBy ∈ gw_tbl := gw_T5 _ (List.mem_of_getElem? (i := 141) rfl) rfl
theorem wd_1102 : Cond.privateMethod yX6_lateBy ∈ lw_tbl := wd_T5 _ (List.mem_of_getElem? (i := 142) rfl)
theorem wd_1103 : Cond.instanceMethod yX6_lateBy ∈ gw_tbl := gw_T5 _ (List.mem_of_getElem? (i := 143) rfl) rfl
theorem wd_1104 : Cond.code yX6_lateBy prog_8_method_52_code 5 (Option.some Jvm.ClassFile.FieldType.int) ∈ gw_tbl := gw_T5 _ (List.mem_of_getElem? (i := 144) rfl) rfl
theorem wd_1105 : Cond.methodLink "LateMirrorsModel" 363 yX6_waysOf ∈ gw_tbl := gw_T5 _ (List.mem_of_getElem? (i := 145) rfl) rfl
theorem wd_1106 : Cond.privateMethod yX6_waysOf ∈ lw_tbl := wd_T5 _ (List.mem_of_getElem? (i := 146) rfl)
theorem wd_1107 : Cond.instanceMethod yX6_waysOf ∈ gw_tbl := gw_T5 _ (List.mem_of_getElem? (i := 147) rfl) rfl
theorem wd_1108 : Cond.code yX6_waysOf prog_8_method_49_code 4 (Option.some Jvm.ClassFile.FieldType.int) ∈ gw_tbl := gw_T5 _ (List.mem_of_getElem? (i := 148) rfl) rfl
theorem wd_1109 : Cond.methodLink "LateMirrorsModel" 366 yX6_menIn ∈ gw_tbl := gw_T5 _ (List.mem_of_getElem? (i := 149) rfl) rfl
theorem wd_1110 : Cond.privateMethod yX6_menIn ∈ lw_tbl := wd_T5 _ (List.mem_of_getElem? (i := 150) rfl)
theorem wd_1111 : Cond.instanceMethod yX6_menIn ∈ gw_tbl := gw_T5 _ (List.mem_of_getElem? (i := 151) rfl) rfl
theorem wd_1112 : Cond.code yX6_menIn prog_8_method_47_code 5 (Option.some Jvm.ClassFile.FieldType.int) ∈ gw_tbl := gw_T5 _ (List.mem_of_getElem? (i := 152) rfl) rfl
theorem wd_1113 : Cond.methodLink "LateMirrorsModel" 369 yX6_bits ∈ gw_tbl := gw_T5 _ (List.mem_of_getElem? (i := 153) rfl) rfl
theorem wd_1114 : Cond.static yX6_bits ∈ gw_tbl := gw_T5 _ (List.mem_of_getElem? (i := 154) rfl) rfl
theorem wd_1115 : Cond.code yX6_bits prog_8_method_48_code 3 (Option.some Jvm.ClassFile.FieldType.int) ∈ gw_tbl := gw_T5 _ (List.mem_of_getElem? (i := 155) rfl) rfl
theorem wd_1116 : Cond.methodLink "LateMirrorsModel" 372 yX6_tells ∈ gw_tbl := gw_T5 _ (List.mem_of_getElem? (i := 156) rfl) rfl
theorem wd_1117 : Cond.privateMethod yX6_tells ∈ lw_tbl := wd_T5 _ (List.mem_of_getElem? (i := 157) rfl)
theorem wd_1118 : Cond.instanceMethod yX6_tells ∈ gw_tbl := gw_T5 _ (List.mem_of_getElem? (i := 158) rfl) rfl
theorem wd_1119 : Cond.code yX6_tells prog_8_method_51_code 7 (Option.some Jvm.ClassFile.FieldType.int) ∈ gw_tbl := gw_T5 _ (List.mem_of_getElem? (i := 159) rfl) rfl
theorem wd_1120 : Cond.methodLink "LateMirrorsModel" 360 yX6_termOf ∈ gw_tbl := gw_T5 _ (List.mem_of_getElem? (i := 160) rfl) rfl
theorem wd_1121 : Cond.privateMethod yX6_termOf ∈ lw_tbl := wd_T5 _ (List.mem_of_getElem? (i := 161) rfl)
theorem wd_1122 : Cond.instanceMethod yX6_termOf ∈ gw_tbl := gw_T5 _ (List.mem_of_getElem? (i := 162) rfl) rfl
theorem wd_1123 : Cond.code yX6_termOf prog_8_method_37_code 8 (Option.some Jvm.ClassFile.FieldType.int) ∈ gw_tbl := gw_T5 _ (List.mem_of_getElem? (i := 163) rfl) rfl
theorem wd_1124 : Cond.methodLink "LateMirrorsModel" 187 yX6_keepsRows ∈ gw_tbl := gw_T5 _ (List.mem_of_getElem? (i := 164) rfl) rfl
theorem wd_1125 : Cond.privateMethod yX6_keepsRows ∈ lw_tbl := wd_T5 _ (List.mem_of_getElem? (i := 165) rfl)
theorem wd_1126 : Cond.instanceMethod yX6_keepsRows ∈ gw_tbl := gw_T5 _ (List.mem_of_getElem? (i := 166) rfl) rfl
theorem wd_1127 : Cond.code yX6_keepsRows prog_8_method_45_code 3 (Option.none : Option Jvm.ClassFile.FieldType) ∈ gw_tbl := gw_T5 _ (List.mem_of_getElem? (i := 167) rfl) rfl
theorem wd_1128 : Cond.fieldLink "LateMirrorsModel" 13 "LateMirrorsModel" "tape" "[B" ∈ gw_tbl := gw_T5 _ (List.mem_of_getElem? (i := 168) rfl) rfl
theorem wd_1129 : Cond.fieldLink "LateMirrorsModel" 190 "LateMirrorsModel" "taped" "I" ∈ gw_tbl := gw_T5 _ (List.mem_of_getElem? (i := 169) rfl) rfl
theorem wd_1130 : Cond.fieldLink "LateMirrorsModel" 17 "LateMirrorsModel" "text" "[B" ∈ gw_tbl := gw_T5 _ (List.mem_of_getElem? (i := 170) rfl) rfl
theorem wd_1131 : Cond.fieldLink "LateMirrorsModel" 196 "LateMirrorsModel" "size" "I" ∈ gw_tbl := gw_T5 _ (List.mem_of_getElem? (i := 171) rfl) rfl
theorem wd_1132 : Cond.fieldLink "LateMirrorsModel" 20 "LateMirrorsModel" "tKind" "[I" ∈ gw_tbl := gw_T5 _ (List.mem_of_getElem? (i := 172) rfl) rfl
theorem wd_1133 : Cond.fieldLink "LateMirrorsModel" 24 "LateMirrorsModel" "tPlace" "[I" ∈ gw_tbl := gw_T5 _ (List.mem_of_getElem? (i := 173) rfl) rfl
theorem wd_1134 : Cond.fieldLink "LateMirrorsModel" 27 "LateMirrorsModel" "tValue" "[I" ∈ gw_tbl := gw_T5 _ (List.mem_of_getElem? (i := 174) rfl) rfl
theorem wd_1135 : Cond.fieldLink "LateMirrorsModel" 30 "LateMirrorsModel" "tName" "[J" ∈ gw_tbl := gw_T5 _ (List.mem_of_getElem? (i := 175) rfl) rfl
theorem wd_1136 : Cond.fieldLink "LateMirrorsModel" 34 "LateMirrorsModel" "keys" "[J" ∈ gw_tbl := gw_T5 _ (List.mem_of_getElem? (i := 176) rfl) rfl
theorem wd_1137 : Cond.fieldLink "LateMirrorsModel" 205 "LateMirrorsModel" "tokens" "I" ∈ gw_tbl := gw_T5 _ (List.mem_of_getElem? (i := 177) rfl) rfl
theorem wd_1138 : Cond.fieldLink "LateMirrorsModel" 230 "LateMirrorsModel" "t" "I" ∈ gw_tbl := gw_T5 _ (List.mem_of_getElem? (i := 178) rfl) rfl
theorem wd_1139 : Cond.fieldLink "LateMirrorsModel" 254 "LateMirrorsModel" "open" "I" ∈ gw_tbl := gw_T5 _ (List.mem_of_getElem? (i := 179) rfl) rfl
theorem wd_1140 : Cond.fieldLink "LateMirrorsModel" 227 "LateMirrorsModel" "fault" "I" ∈ gw_tbl := gw_T5 _ (List.mem_of_getElem? (i := 180) rfl) rfl
theorem wd_1141 : Cond.fieldLink "LateMirrorsModel" 233 "LateMirrorsModel" "faultPlace" "I" ∈ gw_tbl := gw_T5 _ (List.mem_of_getElem? (i := 181) rfl) rfl
theorem wd_1142 : Cond.fieldLink "LateMirrorsModel" 236 "LateMirrorsModel" "worst" "I" ∈ gw_tbl := gw_T5 _ (List.mem_of_getElem? (i := 182) rfl) rfl
theorem wd_1143 : Cond.fieldLink "LateMirrorsModel" 239 "LateMirrorsModel" "worstPlace" "I" ∈ gw_tbl := gw_T5 _ (List.mem_of_getElem? (i := 183) rfl) rfl
theorem wd_1144 : Cond.fieldLink "LateMirrorsModel" 37 "LateMirrorsModel" "place" "I" ∈ gw_tbl := gw_T5 _ (List.mem_of_getElem? (i := 184) rfl) rfl
theorem wd_1145 : Cond.fieldLink "LateMirrorsModel" 257 "LateMirrorsModel" "live" "I" ∈ gw_tbl := gw_T5 _ (List.mem_of_getElem? (i := 185) rfl) rfl
theorem wd_1146 : Cond.fieldLink "LateMirrorsModel" 260 "LateMirrorsModel" "side" "I" ∈ gw_tbl := gw_T5 _ (List.mem_of_getElem? (i := 186) rfl) rfl
theorem wd_1147 : Cond.fieldLink "LateMirrorsModel" 263 "LateMirrorsModel" "names" "I" ∈ gw_tbl := gw_T5 _ (List.mem_of_getElem? (i := 187) rfl) rfl
theorem wd_1148 : Cond.fieldLink "LateMirrorsModel" 40 "LateMirrorsModel" "nameOf" "[J" ∈ gw_tbl := gw_T5 _ (List.mem_of_getElem? (i := 188) rfl) rfl
theorem wd_1149 : Cond.fieldLink "LateMirrorsModel" 43 "LateMirrorsModel" "nameSort" "[I" ∈ gw_tbl := gw_T5 _ (List.mem_of_getElem? (i := 189) rfl) rfl
theorem wd_1150 : Cond.fieldLink "LateMirrorsModel" 46 "LateMirrorsModel" "nameAt" "[I" ∈ gw_tbl := gw_T5 _ (List.mem_of_getElem? (i := 190) rfl) rfl
theorem wd_1151 : Cond.fieldLink "LateMirrorsModel" 49 "LateMirrorsModel" "rooms" "[I" ∈ gw_tbl := gw_T5 _ (List.mem_of_getElem? (i := 191) rfl) rfl
theorem wd_1152 : Cond.fieldLink "LateMirrorsModel" 52 "LateMirrorsModel" "doors" "[I" ∈ gw_tbl := gw_T5 _ (List.mem_of_getElem? (i := 192) rfl) rfl
theorem wd_1153 : Cond.fieldLink "LateMirrorsModel" 55 "LateMirrorsModel" "doorFrom" "[I" ∈ gw_tbl := gw_T5 _ (List.mem_of_getElem? (i := 193) rfl) rfl
theorem wd_1154 : Cond.fieldLink "LateMirrorsModel" 58 "LateMirrorsModel" "doorTo" "[I" ∈ gw_tbl := gw_T5 _ (List.mem_of_getElem? (i := 194) rfl) rfl
theorem wd_1155 : Cond.fieldLink "LateMirrorsModel" 61 "LateMirrorsModel" "men" "[I" ∈ gw_tbl := gw_T5 _ (List.mem_of_getElem? (i := 195) rfl) rfl
theorem wd_1156 : Cond.fieldLink "LateMirrorsModel" 64 "LateMirrorsModel" "rankTold" "[I" ∈ gw_tbl := gw_T5 _ (List.mem_of_getElem? (i := 196) rfl) rfl
theorem wd_1157 : Cond.fieldLink "LateMirrorsModel" 67 "LateMirrorsModel" "roomTold" "[I" ∈ gw_tbl := gw_T5 _ (List.mem_of_getElem? (i := 197) rfl) rfl
theorem wd_1158 : Cond.fieldLink "LateMirrorsModel" 70 "LateMirrorsModel" "mirrors" "[I" ∈ gw_tbl := gw_T5 _ (List.mem_of_getElem? (i := 198) rfl) rfl
theorem wd_1159 : Cond.fieldLink "LateMirrorsModel" 73 "LateMirrorsModel" "hangsTold" "[I" ∈ gw_tbl := gw_T5 _ (List.mem_of_getElem? (i := 199) rfl) rfl
theorem wd_1160 : Cond.fieldLink "LateMirrorsModel" 76 "LateMirrorsModel" "ownerOf" "[I" ∈ gw_tbl := gw_T5 _ (List.mem_of_getElem? (i := 200) rfl) rfl
theorem wd_1161 : Cond.fieldLink "LateMirrorsModel" 79 "LateMirrorsModel" "breaks" "[I" ∈ gw_tbl := gw_T5 _ (List.mem_of_getElem? (i := 201) rfl) rfl
theorem wd_1162 : Cond.fieldLink "LateMirrorsModel" 82 "LateMirrorsModel" "seed" "[I" ∈ gw_tbl := gw_T5 _ (List.mem_of_getElem? (i := 202) rfl) rfl
theorem wd_1163 : Cond.fieldLink "LateMirrorsModel" 85 "LateMirrorsModel" "lawFirst" "[I" ∈ gw_tbl := gw_T5 _ (List.mem_of_getElem? (i := 203) rfl) rfl
theorem wd_1164 : Cond.fieldLink "LateMirrorsModel" 88 "LateMirrorsModel" "lawLast" "[I" ∈ gw_tbl := gw_T5 _ (List.mem_of_getElem? (i := 204) rfl) rfl
theorem wd_1165 : Cond.fieldLink "LateMirrorsModel" 266 "LateMirrorsModel" "branches" "I" ∈ gw_tbl := gw_T5 _ (List.mem_of_getElem? (i := 205) rfl) rfl
theorem wd_1166 : Cond.fieldLink "LateMirrorsModel" 91 "LateMirrorsModel" "hasTest" "[Z" ∈ gw_tbl := gw_T5 _ (List.mem_of_getElem? (i := 206) rfl) rfl
theorem wd_1167 : Cond.fieldLink "LateMirrorsModel" 95 "LateMirrorsModel" "testFrom" "[I" ∈ gw_tbl := gw_T5 _ (List.mem_of_getElem? (i := 207) rfl) rfl
theorem wd_1168 : Cond.fieldLink "LateMirrorsModel" 98 "LateMirrorsModel" "testMid" "[I" ∈ gw_tbl := gw_T5 _ (List.mem_of_getElem? (i := 208) rfl) rfl
theorem wd_1169 : Cond.fieldLink "LateMirrorsModel" 101 "LateMirrorsModel" "testTo" "[I" ∈ gw_tbl := gw_T5 _ (List.mem_of_getElem? (i := 209) rfl) rfl
theorem wd_1170 : Cond.fieldLink "LateMirrorsModel" 104 "LateMirrorsModel" "termTo" "[I" ∈ gw_tbl := gw_T5 _ (List.mem_of_getElem? (i := 210) rfl) rfl
theorem wd_1171 : Cond.fieldLink "LateMirrorsModel" 269 "LateMirrorsModel" "codes" "I" ∈ gw_tbl := gw_T5 _ (List.mem_of_getElem? (i := 211) rfl) rfl
theorem wd_1172 : Cond.fieldLink "LateMirrorsModel" 107 "LateMirrorsModel" "code" "[I" ∈ gw_tbl := gw_T5 _ (List.mem_of_getElem? (i := 212) rfl) rfl
theorem wd_1173 : Cond.fieldLink "LateMirrorsModel" 110 "LateMirrorsModel" "codeInt" "[I" ∈ gw_tbl := gw_T5 _ (List.mem_of_getElem? (i := 213) rfl) rfl
theorem wd_1174 : Cond.fieldLink "LateMirrorsModel" 113 "LateMirrorsModel" "waits" "[I" ∈ gw_tbl := gw_T5 _ (List.mem_of_getElem? (i := 214) rfl) rfl
theorem wd_1175 : Cond.fieldLink "LateMirrorsModel" 324 "LateMirrorsModel" "waiting" "I" ∈ gw_tbl := gw_T5 _ (List.mem_of_getElem? (i := 215) rfl) rfl
theorem wd_1176 : Cond.fieldLink "LateMirrorsModel" 116 "LateMirrorsModel" "variables" "[I" ∈ gw_tbl := gw_T5 _ (List.mem_of_getElem? (i := 216) rfl) rfl
theorem wd_1177 : Cond.fieldLink "LateMirrorsModel" 119 "LateMirrorsModel" "pile" "[I" ∈ gw_tbl := gw_T5 _ (List.mem_of_getElem? (i := 217) rfl) rfl
theorem wd_1178 : Cond.fieldLink "LateMirrorsModel" 337 "LateMirrorsModel" "isBroken" "Z" ∈ gw_tbl := gw_T5 _ (List.mem_of_getElem? (i := 218) rfl) rfl
theorem wd_1179 : Cond.fieldLink "LateMirrorsModel" 122 "LateMirrorsModel" "past" "[I" ∈ gw_tbl := gw_T5 _ (List.mem_of_getElem? (i := 219) rfl) rfl
theorem wd_1180 : Cond.fieldLink "LateMirrorsModel" 345 "LateMirrorsModel" "minuteNow" "I" ∈ gw_tbl := gw_T5 _ (List.mem_of_getElem? (i := 220) rfl) rfl
theorem wd_1181 : Cond.fieldLink "LateMirrorsModel" 125 "LateMirrorsModel" "brokeNow" "[I" ∈ gw_tbl := gw_T5 _ (List.mem_of_getElem? (i := 221) rfl) rfl
theorem wd_1182 : Cond.fieldLink "LateMirrorsModel" 128 "LateMirrorsModel" "brokeShows" "[I" ∈ gw_tbl := gw_T5 _ (List.mem_of_getElem? (i := 222) rfl) rfl
theorem wd_1183 : Cond.fieldLink "LateMirrorsModel" 131 "LateMirrorsModel" "row" "[I" ∈ gw_tbl := gw_T5 _ (List.mem_of_getElem? (i := 223) rfl) rfl
theorem wd_1184 : Cond.fieldLink "LateMirrorsModel" 348 "LateMirrorsModel" "minute" "I" ∈ gw_tbl := gw_T5 _ (List.mem_of_getElem? (i := 224) rfl) rfl
theorem wd_1185 : Cond.fieldLink "LateMirrorsModel" 134 "LateMirrorsModel" "broke" "[I" ∈ gw_tbl := gw_T5 _ (List.mem_of_getElem? (i := 225) rfl) rfl
theorem wd_1186 : Cond.fieldLink "LateMirrorsModel" 137 "LateMirrorsModel" "shows" "[I" ∈ gw_tbl := gw_T5 _ (List.mem_of_getElem? (i := 226) rfl) rfl
theorem wd_1187 : Cond.fieldLink "LateMirrorsModel" 351 "LateMirrorsModel" "lots" "I" ∈ gw_tbl := gw_T5 _ (List.mem_of_getElem? (i := 227) rfl) rfl
theorem wd_1188 : Cond.fieldLink "LateMirrorsModel" 275 "LateMirrorsModel" "undos" "I" ∈ gw_tbl := gw_T5 _ (List.mem_of_getElem? (i := 228) rfl) rfl
theorem wd_1189 : Cond.fieldLink "LateMirrorsModel" 140 "LateMirrorsModel" "history" "[I" ∈ gw_tbl := gw_T5 _ (List.mem_of_getElem? (i := 229) rfl) rfl
theorem wd_1190 : Cond.fieldLink "LateMirrorsModel" 143 "LateMirrorsModel" "isLooked" "[Z" ∈ gw_tbl := gw_T5 _ (List.mem_of_getElem? (i := 230) rfl) rfl
theorem wd_1191 : Cond.fieldLink "LateMirrorsModel" 146 "LateMirrorsModel" "isLookedThen" "[Z" ∈ gw_tbl := gw_T5 _ (List.mem_of_getElem? (i := 231) rfl) rfl
theorem wd_1192 : Cond.fieldLink "LateMirrorsModel" 149 "LateMirrorsModel" "shownAt" "[I" ∈ gw_tbl := gw_T5 _ (List.mem_of_getElem? (i := 232) rfl) rfl
theorem wd_1193 : Cond.fieldLink "LateMirrorsModel" 152 "LateMirrorsModel" "farOf" "[I" ∈ gw_tbl := gw_T5 _ (List.mem_of_getElem? (i := 233) rfl) rfl
theorem wd_1194 : Cond.fieldLink "LateMirrorsModel" 278 "LateMirrorsModel" "told" "I" ∈ gw_tbl := gw_T5 _ (List.mem_of_getElem? (i := 234) rfl) rfl
theorem wd_1195 : Cond.fieldLink "LateMirrorsModel" 155 "LateMirrorsModel" "toldMirror" "[I" ∈ gw_tbl := gw_T5 _ (List.mem_of_getElem? (i := 235) rfl) rfl
theorem wd_1196 : Cond.fieldLink "LateMirrorsModel" 158 "LateMirrorsModel" "toldMinute" "[I" ∈ gw_tbl := gw_T5 _ (List.mem_of_getElem? (i := 236) rfl) rfl
theorem wd_1197 : Cond.fieldLink "LateMirrorsModel" 161 "LateMirrorsModel" "toldMan" "[I" ∈ gw_tbl := gw_T5 _ (List.mem_of_getElem? (i := 237) rfl) rfl
theorem wd_1198 : Cond.fieldLink "LateMirrorsModel" 164 "LateMirrorsModel" "toldThere" "[Z" ∈ gw_tbl := gw_T5 _ (List.mem_of_getElem? (i := 238) rfl) rfl
theorem wd_1199 : Cond.fieldLink "LateMirrorsModel" 167 "LateMirrorsModel" "isHeld" "[Z" ∈ gw_tbl := gw_T5 _ (List.mem_of_getElem? (i := 239) rfl) rfl
theorem wd_1200 : Cond.fieldLink "LateMirrorsModel" 170 "LateMirrorsModel" "held" "[I" ∈ gw_tbl := gw_T6 _ (List.mem_of_getElem? (i := 0) rfl) rfl
theorem wd_1201 : Cond.fieldLink "LateMirrorsModel" 173 "LateMirrorsModel" "heldToo" "[I" ∈ gw_tbl := gw_T6 _ (List.mem_of_getElem? (i := 1) rfl) rfl
theorem wd_1202 : Cond.lays "LateMirrorsModel" "LateMirrorsModel" "thrown" "I" ∈ gw_tbl := gw_T6 _ (List.mem_of_getElem? (i := 2) rfl) rfl
theorem wd_1203 : Cond.soleField "LateMirrorsModel" "thrown" ∈ gw_tbl := gw_T6 _ (List.mem_of_getElem? (i := 3) rfl) rfl
theorem wd_1204 : Cond.laysFinal "LateMirrorsModel" "LateMirrorsModel" "tape" "[B" ∈ gw_tbl := gw_T6 _ (List.mem_of_getElem? (i := 4) rfl) rfl
theorem wd_1205 : Cond.soleField "LateMirrorsModel" "tape" ∈ gw_tbl := gw_T6 _ (List.mem_of_getElem? (i := 5) rfl) rfl
theorem wd_1206 : Cond.lays "LateMirrorsModel" "LateMirrorsModel" "taped" "I" ∈ gw_tbl := gw_T6 _ (List.mem_of_getElem? (i := 6) rfl) rfl
theorem wd_1207 : Cond.soleField "LateMirrorsModel" "taped" ∈ gw_tbl := gw_T6 _ (List.mem_of_getElem? (i := 7) rfl) rfl
theorem wd_1208 : Cond.laysFinal "LateMirrorsModel" "LateMirrorsModel" "text" "[B" ∈ gw_tbl := gw_T6 _ (List.mem_of_getElem? (i := 8) rfl) rfl
theorem wd_1209 : Cond.soleField "LateMirrorsModel" "text" ∈ gw_tbl := gw_T6 _ (List.mem_of_getElem? (i := 9) rfl) rfl
theorem wd_1210 : Cond.lays "LateMirrorsModel" "LateMirrorsModel" "size" "I" ∈ gw_tbl := gw_T6 _ (List.mem_of_getElem? (i := 10) rfl) rfl
theorem wd_1211 : Cond.soleField "LateMirrorsModel" "size" ∈ gw_tbl := gw_T6 _ (List.mem_of_getElem? (i := 11) rfl) rfl
theorem wd_1212 : Cond.laysFinal "LateMirrorsModel" "LateMirrorsModel" "tKind" "[I" ∈ gw_tbl := gw_T6 _ (List.mem_of_getElem? (i := 12) rfl) rfl
theorem wd_1213 : Cond.soleField "LateMirrorsModel" "tKind" ∈ gw_tbl := gw_T6 _ (List.mem_of_getElem? (i := 13) rfl) rfl
theorem wd_1214 : Cond.laysFinal "LateMirrorsModel" "LateMirrorsModel" "tPlace" "[I" ∈ gw_tbl := gw_T6 _ (List.mem_of_getElem? (i := 14) rfl) rfl
theorem wd_1215 : Cond.soleField "LateMirrorsModel" "tPlace" ∈ gw_tbl := gw_T6 _ (List.mem_of_getElem? (i := 15) rfl) rfl
theorem wd_1216 : Cond.laysFinal "LateMirrorsModel" "LateMirrorsModel" "tValue" "[I" ∈ gw_tbl := gw_T6 _ (List.mem_of_getElem? (i := 16) rfl) rfl
theorem wd_1217 : Cond.soleField "LateMirrorsModel" "tValue" ∈ gw_tbl := gw_T6 _ (List.mem_of_getElem? (i := 17) rfl) rfl
theorem wd_1218 : Cond.laysFinal "LateMirrorsModel" "LateMirrorsModel" "tName" "[J" ∈ gw_tbl := gw_T6 _ (List.mem_of_getElem? (i := 18) rfl) rfl
theorem wd_1219 : Cond.soleField "LateMirrorsModel" "tName" ∈ gw_tbl := gw_T6 _ (List.mem_of_getElem? (i := 19) rfl) rfl
theorem wd_1220 : Cond.laysFinal "LateMirrorsModel" "LateMirrorsModel" "keys" "[J" ∈ gw_tbl := gw_T6 _ (List.mem_of_getElem? (i := 20) rfl) rfl
theorem wd_1221 : Cond.soleField "LateMirrorsModel" "keys" ∈ gw_tbl := gw_T6 _ (List.mem_of_getElem? (i := 21) rfl) rfl
theorem wd_1222 : Cond.lays "LateMirrorsModel" "LateMirrorsModel" "tokens" "I" ∈ gw_tbl := gw_T6 _ (List.mem_of_getElem? (i := 22) rfl) rfl
theorem wd_1223 : Cond.soleField "LateMirrorsModel" "tokens" ∈ gw_tbl := gw_T6 _ (List.mem_of_getElem? (i := 23) rfl) rfl
theorem wd_1224 : Cond.lays "LateMirrorsModel" "LateMirrorsModel" "t" "I" ∈ gw_tbl := gw_T6 _ (List.mem_of_getElem? (i := 24) rfl) rfl
theorem wd_1225 : Cond.soleField "LateMirrorsModel" "t" ∈ gw_tbl := gw_T6 _ (List.mem_of_getElem? (i := 25) rfl) rfl
theorem wd_1226 : Cond.lays "LateMirrorsModel" "LateMirrorsModel" "open" "I" ∈ gw_tbl := gw_T6 _ (List.mem_of_getElem? (i := 26) rfl) rfl
theorem wd_1227 : Cond.soleField "LateMirrorsModel" "open" ∈ gw_tbl := gw_T6 _ (List.mem_of_getElem? (i := 27) rfl) rfl
theorem wd_1228 : Cond.lays "LateMirrorsModel" "LateMirrorsModel" "fault" "I" ∈ gw_tbl := gw_T6 _ (List.mem_of_getElem? (i := 28) rfl) rfl
theorem wd_1229 : Cond.soleField "LateMirrorsModel" "fault" ∈ gw_tbl := gw_T6 _ (List.mem_of_getElem? (i := 29) rfl) rfl
theorem wd_1230 : Cond.lays "LateMirrorsModel" "LateMirrorsModel" "faultPlace" "I" ∈ gw_tbl := gw_T6 _ (List.mem_of_getElem? (i := 30) rfl) rfl
theorem wd_1231 : Cond.soleField "LateMirrorsModel" "faultPlace" ∈ gw_tbl := gw_T6 _ (List.mem_of_getElem? (i := 31) rfl) rfl
theorem wd_1232 : Cond.lays "LateMirrorsModel" "LateMirrorsModel" "worst" "I" ∈ gw_tbl := gw_T6 _ (List.mem_of_getElem? (i := 32) rfl) rfl
theorem wd_1233 : Cond.soleField "LateMirrorsModel" "worst" ∈ gw_tbl := gw_T6 _ (List.mem_of_getElem? (i := 33) rfl) rfl
theorem wd_1234 : Cond.lays "LateMirrorsModel" "LateMirrorsModel" "worstPlace" "I" ∈ gw_tbl := gw_T6 _ (List.mem_of_getElem? (i := 34) rfl) rfl
theorem wd_1235 : Cond.soleField "LateMirrorsModel" "worstPlace" ∈ gw_tbl := gw_T6 _ (List.mem_of_getElem? (i := 35) rfl) rfl
theorem wd_1236 : Cond.lays "LateMirrorsModel" "LateMirrorsModel" "place" "I" ∈ gw_tbl := gw_T6 _ (List.mem_of_getElem? (i := 36) rfl) rfl
theorem wd_1237 : Cond.soleField "LateMirrorsModel" "place" ∈ gw_tbl := gw_T6 _ (List.mem_of_getElem? (i := 37) rfl) rfl
theorem wd_1238 : Cond.lays "LateMirrorsModel" "LateMirrorsModel" "live" "I" ∈ gw_tbl := gw_T6 _ (List.mem_of_getElem? (i := 38) rfl) rfl
theorem wd_1239 : Cond.soleField "LateMirrorsModel" "live" ∈ gw_tbl := gw_T6 _ (List.mem_of_getElem? (i := 39) rfl) rfl
theorem wd_1240 : Cond.lays "LateMirrorsModel" "LateMirrorsModel" "side" "I" ∈ gw_tbl := gw_T6 _ (List.mem_of_getElem? (i := 40) rfl) rfl
theorem wd_1241 : Cond.soleField "LateMirrorsModel" "side" ∈ gw_tbl := gw_T6 _ (List.mem_of_getElem? (i := 41) rfl) rfl
theorem wd_1242 : Cond.lays "LateMirrorsModel" "LateMirrorsModel" "names" "I" ∈ gw_tbl := gw_T6 _ (List.mem_of_getElem? (i := 42) rfl) rfl
theorem wd_1243 : Cond.soleField "LateMirrorsModel" "names" ∈ gw_tbl := gw_T6 _ (List.mem_of_getElem? (i := 43) rfl) rfl
theorem wd_1244 : Cond.laysFinal "LateMirrorsModel" "LateMirrorsModel" "nameOf" "[J" ∈ gw_tbl := gw_T6 _ (List.mem_of_getElem? (i := 44) rfl) rfl
theorem wd_1245 : Cond.soleField "LateMirrorsModel" "nameOf" ∈ gw_tbl := gw_T6 _ (List.mem_of_getElem? (i := 45) rfl) rfl
theorem wd_1246 : Cond.laysFinal "LateMirrorsModel" "LateMirrorsModel" "nameSort" "[I" ∈ gw_tbl := gw_T6 _ (List.mem_of_getElem? (i := 46) rfl) rfl
theorem wd_1247 : Cond.soleField "LateMirrorsModel" "nameSort" ∈ gw_tbl := gw_T6 _ (List.mem_of_getElem? (i := 47) rfl) rfl
theorem wd_1248 : Cond.laysFinal "LateMirrorsModel" "LateMirrorsModel" "nameAt" "[I" ∈ gw_tbl := gw_T6 _ (List.mem_of_getElem? (i := 48) rfl) rfl
theorem wd_1249 : Cond.soleField "LateMirrorsModel" "nameAt" ∈ gw_tbl := gw_T6 _ (List.mem_of_getElem? (i := 49) rfl) rfl
theorem wd_1250 : Cond.laysFinal "LateMirrorsModel" "LateMirrorsModel" "rooms" "[I" ∈ gw_tbl := gw_T6 _ (List.mem_of_getElem? (i := 50) rfl) rfl
theorem wd_1251 : Cond.soleField "LateMirrorsModel" "rooms" ∈ gw_tbl := gw_T6 _ (List.mem_of_getElem? (i := 51) rfl) rfl
theorem wd_1252 : Cond.laysFinal "LateMirrorsModel" "LateMirrorsModel" "doors" "[I" ∈ gw_tbl := gw_T6 _ (List.mem_of_getElem? (i := 52) rfl) rfl
theorem wd_1253 : Cond.soleField "LateMirrorsModel" "doors" ∈ gw_tbl := gw_T6 _ (List.mem_of_getElem? (i := 53) rfl) rfl
theorem wd_1254 : Cond.laysFinal "LateMirrorsModel" "LateMirrorsModel" "doorFrom" "[I" ∈ gw_tbl := gw_T6 _ (List.mem_of_getElem? (i := 54) rfl) rfl
theorem wd_1255 : Cond.soleField "LateMirrorsModel" "doorFrom" ∈ gw_tbl := gw_T6 _ (List.mem_of_getElem? (i := 55) rfl) rfl
theorem wd_1256 : Cond.laysFinal "LateMirrorsModel" "LateMirrorsModel" "doorTo" "[I" ∈ gw_tbl := gw_T6 _ (List.mem_of_getElem? (i := 56) rfl) rfl
theorem wd_1257 : Cond.soleField "LateMirrorsModel" "doorTo" ∈ gw_tbl := gw_T6 _ (List.mem_of_getElem? (i := 57) rfl) rfl
theorem wd_1258 : Cond.laysFinal "LateMirrorsModel" "LateMirrorsModel" "men" "[I" ∈ gw_tbl := gw_T6 _ (List.mem_of_getElem? (i := 58) rfl) rfl
theorem wd_1259 : Cond.soleField "LateMirrorsModel" "men" ∈ gw_tbl := gw_T6 _ (List.mem_of_getElem? (i := 59) rfl) rfl
theorem wd_1260 : Cond.laysFinal "LateMirrorsModel" "LateMirrorsModel" "rankTold" "[I" ∈ gw_tbl := gw_T6 _ (List.mem_of_getElem? (i := 60) rfl) rfl
theorem wd_1261 : Cond.soleField "LateMirrorsModel" "rankTold" ∈ gw_tbl := gw_T6 _ (List.mem_of_getElem? (i := 61) rfl) rfl
theorem wd_1262 : Cond.laysFinal "LateMirrorsModel" "LateMirrorsModel" "roomTold" "[I" ∈ gw_tbl := gw_T6 _ (List.mem_of_getElem? (i := 62) rfl) rfl
theorem wd_1263 : Cond.soleField "LateMirrorsModel" "roomTold" ∈ gw_tbl := gw_T6 _ (List.mem_of_getElem? (i := 63) rfl) rfl
theorem wd_1264 : Cond.laysFinal "LateMirrorsModel" "LateMirrorsModel" "mirrors" "[I" ∈ gw_tbl := gw_T6 _ (List.mem_of_getElem? (i := 64) rfl) rfl
theorem wd_1265 : Cond.soleField "LateMirrorsModel" "mirrors" ∈ gw_tbl := gw_T6 _ (List.mem_of_getElem? (i := 65) rfl) rfl
theorem wd_1266 : Cond.laysFinal "LateMirrorsModel" "LateMirrorsModel" "hangsTold" "[I" ∈ gw_tbl := gw_T6 _ (List.mem_of_getElem? (i := 66) rfl) rfl
theorem wd_1267 : Cond.soleField "LateMirrorsModel" "hangsTold" ∈ gw_tbl := gw_T6 _ (List.mem_of_getElem? (i := 67) rfl) rfl
theorem wd_1268 : Cond.laysFinal "LateMirrorsModel" "LateMirrorsModel" "ownerOf" "[I" ∈ gw_tbl := gw_T6 _ (List.mem_of_getElem? (i := 68) rfl) rfl
theorem wd_1269 : Cond.soleField "LateMirrorsModel" "ownerOf" ∈ gw_tbl := gw_T6 _ (List.mem_of_getElem? (i := 69) rfl) rfl
theorem wd_1270 : Cond.laysFinal "LateMirrorsModel" "LateMirrorsModel" "breaks" "[I" ∈ gw_tbl := gw_T6 _ (List.mem_of_getElem? (i := 70) rfl) rfl
theorem wd_1271 : Cond.soleField "LateMirrorsModel" "breaks" ∈ gw_tbl := gw_T6 _ (List.mem_of_getElem? (i := 71) rfl) rfl
theorem wd_1272 : Cond.laysFinal "LateMirrorsModel" "LateMirrorsModel" "seed" "[I" ∈ gw_tbl := gw_T6 _ (List.mem_of_getElem? (i := 72) rfl) rfl
theorem wd_1273 : Cond.soleField "LateMirrorsModel" "seed" ∈ gw_tbl := gw_T6 _ (List.mem_of_getElem? (i := 73) rfl) rfl
theorem wd_1274 : Cond.laysFinal "LateMirrorsModel" "LateMirrorsModel" "lawFirst" "[I" ∈ gw_tbl := gw_T6 _ (List.mem_of_getElem? (i := 74) rfl) rfl
theorem wd_1275 : Cond.soleField "LateMirrorsModel" "lawFirst" ∈ gw_tbl := gw_T6 _ (List.mem_of_getElem? (i := 75) rfl) rfl
theorem wd_1276 : Cond.laysFinal "LateMirrorsModel" "LateMirrorsModel" "lawLast" "[I" ∈ gw_tbl := gw_T6 _ (List.mem_of_getElem? (i := 76) rfl) rfl
theorem wd_1277 : Cond.soleField "LateMirrorsModel" "lawLast" ∈ gw_tbl := gw_T6 _ (List.mem_of_getElem? (i := 77) rfl) rfl
theorem wd_1278 : Cond.lays "LateMirrorsModel" "LateMirrorsModel" "branches" "I" ∈ gw_tbl := gw_T6 _ (List.mem_of_getElem? (i := 78) rfl) rfl
theorem wd_1279 : Cond.soleField "LateMirrorsModel" "branches" ∈ gw_tbl := gw_T6 _ (List.mem_of_getElem? (i := 79) rfl) rfl
theorem wd_1280 : Cond.laysFinal "LateMirrorsModel" "LateMirrorsModel" "hasTest" "[Z" ∈ gw_tbl := gw_T6 _ (List.mem_of_getElem? (i := 80) rfl) rfl
theorem wd_1281 : Cond.soleField "LateMirrorsModel" "hasTest" ∈ gw_tbl := gw_T6 _ (List.mem_of_getElem? (i := 81) rfl) rfl
theorem wd_1282 : Cond.laysFinal "LateMirrorsModel" "LateMirrorsModel" "testFrom" "[I" ∈ gw_tbl := gw_T6 _ (List.mem_of_getElem? (i := 82) rfl) rfl
theorem wd_1283 : Cond.soleField "LateMirrorsModel" "testFrom" ∈ gw_tbl := gw_T6 _ (List.mem_of_getElem? (i := 83) rfl) rfl
theorem wd_1284 : Cond.laysFinal "LateMirrorsModel" "LateMirrorsModel" "testMid" "[I" ∈ gw_tbl := gw_T6 _ (List.mem_of_getElem? (i := 84) rfl) rfl
theorem wd_1285 : Cond.soleField "LateMirrorsModel" "testMid" ∈ gw_tbl := gw_T6 _ (List.mem_of_getElem? (i := 85) rfl) rfl
theorem wd_1286 : Cond.laysFinal "LateMirrorsModel" "LateMirrorsModel" "testTo" "[I" ∈ gw_tbl := gw_T6 _ (List.mem_of_getElem? (i := 86) rfl) rfl
theorem wd_1287 : Cond.soleField "LateMirrorsModel" "testTo" ∈ gw_tbl := gw_T6 _ (List.mem_of_getElem? (i := 87) rfl) rfl
theorem wd_1288 : Cond.laysFinal "LateMirrorsModel" "LateMirrorsModel" "termTo" "[I" ∈ gw_tbl := gw_T6 _ (List.mem_of_getElem? (i := 88) rfl) rfl
theorem wd_1289 : Cond.soleField "LateMirrorsModel" "termTo" ∈ gw_tbl := gw_T6 _ (List.mem_of_getElem? (i := 89) rfl) rfl
theorem wd_1290 : Cond.lays "LateMirrorsModel" "LateMirrorsModel" "codes" "I" ∈ gw_tbl := gw_T6 _ (List.mem_of_getElem? (i := 90) rfl) rfl
theorem wd_1291 : Cond.soleField "LateMirrorsModel" "codes" ∈ gw_tbl := gw_T6 _ (List.mem_of_getElem? (i := 91) rfl) rfl
theorem wd_1292 : Cond.laysFinal "LateMirrorsModel" "LateMirrorsModel" "code" "[I" ∈ gw_tbl := gw_T6 _ (List.mem_of_getElem? (i := 92) rfl) rfl
theorem wd_1293 : Cond.soleField "LateMirrorsModel" "code" ∈ gw_tbl := gw_T6 _ (List.mem_of_getElem? (i := 93) rfl) rfl
theorem wd_1294 : Cond.laysFinal "LateMirrorsModel" "LateMirrorsModel" "codeInt" "[I" ∈ gw_tbl := gw_T6 _ (List.mem_of_getElem? (i := 94) rfl) rfl
theorem wd_1295 : Cond.soleField "LateMirrorsModel" "codeInt" ∈ gw_tbl := gw_T6 _ (List.mem_of_getElem? (i := 95) rfl) rfl
theorem wd_1296 : Cond.laysFinal "LateMirrorsModel" "LateMirrorsModel" "waits" "[I" ∈ gw_tbl := gw_T6 _ (List.mem_of_getElem? (i := 96) rfl) rfl
theorem wd_1297 : Cond.soleField "LateMirrorsModel" "waits" ∈ gw_tbl := gw_T6 _ (List.mem_of_getElem? (i := 97) rfl) rfl
theorem wd_1298 : Cond.lays "LateMirrorsModel" "LateMirrorsModel" "waiting" "I" ∈ gw_tbl := gw_T6 _ (List.mem_of_getElem? (i := 98) rfl) rfl
theorem wd_1299 : Cond.soleField "LateMirrorsModel" "waiting" ∈ gw_tbl := gw_T6 _ (List.mem_of_getElem? (i := 99) rfl) rfl
theorem wd_1300 : Cond.laysFinal "LateMirrorsModel" "LateMirrorsModel" "variables" "[I" ∈ gw_tbl := gw_T6 _ (List.mem_of_getElem? (i := 100) rfl) rfl
theorem wd_1301 : Cond.soleField "LateMirrorsModel" "variables" ∈ gw_tbl := gw_T6 _ (List.mem_of_getElem? (i := 101) rfl) rfl
theorem wd_1302 : Cond.laysFinal "LateMirrorsModel" "LateMirrorsModel" "pile" "[I" ∈ gw_tbl := gw_T6 _ (List.mem_of_getElem? (i := 102) rfl) rfl
theorem wd_1303 : Cond.soleField "LateMirrorsModel" "pile" ∈ gw_tbl := gw_T6 _ (List.mem_of_getElem? (i := 103) rfl) rfl
theorem wd_1304 : Cond.lays "LateMirrorsModel" "LateMirrorsModel" "isBroken" "Z" ∈ gw_tbl := gw_T6 _ (List.mem_of_getElem? (i := 104) rfl) rfl
theorem wd_1305 : Cond.soleField "LateMirrorsModel" "isBroken" ∈ gw_tbl := gw_T6 _ (List.mem_of_getElem? (i := 105) rfl) rfl
theorem wd_1306 : Cond.laysFinal "LateMirrorsModel" "LateMirrorsModel" "past" "[I" ∈ gw_tbl := gw_T6 _ (List.mem_of_getElem? (i := 106) rfl) rfl
theorem wd_1307 : Cond.soleField "LateMirrorsModel" "past" ∈ gw_tbl := gw_T6 _ (List.mem_of_getElem? (i := 107) rfl) rfl
theorem wd_1308 : Cond.lays "LateMirrorsModel" "LateMirrorsModel" "minuteNow" "I" ∈ gw_tbl := gw_T6 _ (List.mem_of_getElem? (i := 108) rfl) rfl
theorem wd_1309 : Cond.soleField "LateMirrorsModel" "minuteNow" ∈ gw_tbl := gw_T6 _ (List.mem_of_getElem? (i := 109) rfl) rfl
theorem wd_1310 : Cond.laysFinal "LateMirrorsModel" "LateMirrorsModel" "brokeNow" "[I" ∈ gw_tbl := gw_T6 _ (List.mem_of_getElem? (i := 110) rfl) rfl
theorem wd_1311 : Cond.soleField "LateMirrorsModel" "brokeNow" ∈ gw_tbl := gw_T6 _ (List.mem_of_getElem? (i := 111) rfl) rfl
theorem wd_1312 : Cond.laysFinal "LateMirrorsModel" "LateMirrorsModel" "brokeShows" "[I" ∈ gw_tbl := gw_T6 _ (List.mem_of_getElem? (i := 112) rfl) rfl
theorem wd_1313 : Cond.soleField "LateMirrorsModel" "brokeShows" ∈ gw_tbl := gw_T6 _ (List.mem_of_getElem? (i := 113) rfl) rfl
theorem wd_1314 : Cond.laysFinal "LateMirrorsModel" "LateMirrorsModel" "row" "[I" ∈ gw_tbl := gw_T6 _ (List.mem_of_getElem? (i := 114) rfl) rfl
theorem wd_1315 : Cond.soleField "LateMirrorsModel" "row" ∈ gw_tbl := gw_T6 _ (List.mem_of_getElem? (i := 115) rfl) rfl
theorem wd_1316 : Cond.lays "LateMirrorsModel" "LateMirrorsModel" "minute" "I" ∈ gw_tbl := gw_T6 _ (List.mem_of_getElem? (i := 116) rfl) rfl
theorem wd_1317 : Cond.soleField "LateMirrorsModel" "minute" ∈ gw_tbl := gw_T6 _ (List.mem_of_getElem? (i := 117) rfl) rfl
theorem wd_1318 : Cond.laysFinal "LateMirrorsModel" "LateMirrorsModel" "broke" "[I" ∈ gw_tbl := gw_T6 _ (List.mem_of_getElem? (i := 118) rfl) rfl
theorem wd_1319 : Cond.soleField "LateMirrorsModel" "broke" ∈ gw_tbl := gw_T6 _ (List.mem_of_getElem? (i := 119) rfl) rfl
theorem wd_1320 : Cond.laysFinal "LateMirrorsModel" "LateMirrorsModel" "shows" "[I" ∈ gw_tbl := gw_T6 _ (List.mem_of_getElem? (i := 120) rfl) rfl
theorem wd_1321 : Cond.soleField "LateMirrorsModel" "shows" ∈ gw_tbl := gw_T6 _ (List.mem_of_getElem? (i := 121) rfl) rfl
theorem wd_1322 : Cond.lays "LateMirrorsModel" "LateMirrorsModel" "lots" "I" ∈ gw_tbl := gw_T6 _ (List.mem_of_getElem? (i := 122) rfl) rfl
theorem wd_1323 : Cond.soleField "LateMirrorsModel" "lots" ∈ gw_tbl := gw_T6 _ (List.mem_of_getElem? (i := 123) rfl) rfl
theorem wd_1324 : Cond.lays "LateMirrorsModel" "LateMirrorsModel" "undos" "I" ∈ gw_tbl := gw_T6 _ (List.mem_of_getElem? (i := 124) rfl) rfl
theorem wd_1325 : Cond.soleField "LateMirrorsModel" "undos" ∈ gw_tbl := gw_T6 _ (List.mem_of_getElem? (i := 125) rfl) rfl
theorem wd_1326 : Cond.laysFinal "LateMirrorsModel" "LateMirrorsModel" "history" "[I" ∈ gw_tbl := gw_T6 _ (List.mem_of_getElem? (i := 126) rfl) rfl
theorem wd_1327 : Cond.soleField "LateMirrorsModel" "history" ∈ gw_tbl := gw_T6 _ (List.mem_of_getElem? (i := 127) rfl) rfl
theorem wd_1328 : Cond.laysFinal "LateMirrorsModel" "LateMirrorsModel" "isLooked" "[Z" ∈ gw_tbl := gw_T6 _ (List.mem_of_getElem? (i := 128) rfl) rfl
theorem wd_1329 : Cond.soleField "LateMirrorsModel" "isLooked" ∈ gw_tbl := gw_T6 _ (List.mem_of_getElem? (i := 129) rfl) rfl
theorem wd_1330 : Cond.laysFinal "LateMirrorsModel" "LateMirrorsModel" "isLookedThen" "[Z" ∈ gw_tbl := gw_T6 _ (List.mem_of_getElem? (i := 130) rfl) rfl
theorem wd_1331 : Cond.soleField "LateMirrorsModel" "isLookedThen" ∈ gw_tbl := gw_T6 _ (List.mem_of_getElem? (i := 131) rfl) rfl
theorem wd_1332 : Cond.laysFinal "LateMirrorsModel" "LateMirrorsModel" "shownAt" "[I" ∈ gw_tbl := gw_T6 _ (List.mem_of_getElem? (i := 132) rfl) rfl
theorem wd_1333 : Cond.soleField "LateMirrorsModel" "shownAt" ∈ gw_tbl := gw_T6 _ (List.mem_of_getElem? (i := 133) rfl) rfl
theorem wd_1334 : Cond.laysFinal "LateMirrorsModel" "LateMirrorsModel" "farOf" "[I" ∈ gw_tbl := gw_T6 _ (List.mem_of_getElem? (i := 134) rfl) rfl
theorem wd_1335 : Cond.soleField "LateMirrorsModel" "farOf" ∈ gw_tbl := gw_T6 _ (List.mem_of_getElem? (i := 135) rfl) rfl
theorem wd_1336 : Cond.lays "LateMirrorsModel" "LateMirrorsModel" "told" "I" ∈ gw_tbl := gw_T6 _ (List.mem_of_getElem? (i := 136) rfl) rfl
theorem wd_1337 : Cond.soleField "LateMirrorsModel" "told" ∈ gw_tbl := gw_T6 _ (List.mem_of_getElem? (i := 137) rfl) rfl
theorem wd_1338 : Cond.laysFinal "LateMirrorsModel" "LateMirrorsModel" "toldMirror" "[I" ∈ gw_tbl := gw_T6 _ (List.mem_of_getElem? (i := 138) rfl) rfl
theorem wd_1339 : Cond.soleField "LateMirrorsModel" "toldMirror" ∈ gw_tbl := gw_T6 _ (List.mem_of_getElem? (i := 139) rfl) rfl
theorem wd_1340 : Cond.laysFinal "LateMirrorsModel" "LateMirrorsModel" "toldMinute" "[I" ∈ gw_tbl := gw_T6 _ (List.mem_of_getElem? (i := 140) rfl) rfl
theorem wd_1341 : Cond.soleField "LateMirrorsModel" "toldMinute" ∈ gw_tbl := gw_T6 _ (List.mem_of_getElem? (i := 141) rfl) rfl
theorem wd_1342 : Cond.laysFinal "LateMirrorsModel" "LateMirrorsModel" "toldMan" "[I" ∈ gw_tbl := gw_T6 _ (List.mem_of_getElem? (i := 142) rfl) rfl
theorem wd_1343 : Cond.soleField "LateMirrorsModel" "toldMan" ∈ gw_tbl := gw_T6 _ (List.mem_of_getElem? (i := 143) rfl) rfl
theorem wd_1344 : Cond.laysFinal "LateMirrorsModel" "LateMirrorsModel" "toldThere" "[Z" ∈ gw_tbl := gw_T6 _ (List.mem_of_getElem? (i := 144) rfl) rfl
theorem wd_1345 : Cond.soleField "LateMirrorsModel" "toldThere" ∈ gw_tbl := gw_T6 _ (List.mem_of_getElem? (i := 145) rfl) rfl
theorem wd_1346 : Cond.laysFinal "LateMirrorsModel" "LateMirrorsModel" "isHeld" "[Z" ∈ gw_tbl := gw_T6 _ (List.mem_of_getElem? (i := 146) rfl) rfl
theorem wd_1347 : Cond.soleField "LateMirrorsModel" "isHeld" ∈ gw_tbl := gw_T6 _ (List.mem_of_getElem? (i := 147) rfl) rfl
theorem wd_1348 : Cond.laysFinal "LateMirrorsModel" "LateMirrorsModel" "held" "[I" ∈ gw_tbl := gw_T6 _ (List.mem_of_getElem? (i := 148) rfl) rfl
theorem wd_1349 : Cond.soleField "LateMirrorsModel" "held" ∈ gw_tbl := gw_T6 _ (List.mem_of_getElem? (i := 149) rfl) rfl
theorem wd_1350 : Cond.laysFinal "LateMirrorsModel" "LateMirrorsModel" "heldToo" "[I" ∈ gw_tbl := gw_T6 _ (List.mem_of_getElem? (i := 150) rfl) rfl
theorem wd_1351 : Cond.soleField "LateMirrorsModel" "heldToo" ∈ gw_tbl := gw_T6 _ (List.mem_of_getElem? (i := 151) rfl) rfl
theorem wd_1352 : Cond.superclass "LateMirrorsModel" "java/lang/Object" ∈ gw_tbl := gw_T6 _ (List.mem_of_getElem? (i := 152) rfl) rfl
theorem wd_1353 : Cond.arrayClass Jvm.ClassFile.FieldType.boolean ∈ gw_tbl := gw_T6 _ (List.mem_of_getElem? (i := 153) rfl) rfl
theorem wd_1354 : Cond.methodLink "LateMirrorsLaw" 17 yX6_feed ∈ gw_tbl := gw_T6 _ (List.mem_of_getElem? (i := 154) rfl) rfl
theorem wd_1355 : Cond.instanceMethod yX6_feed ∈ gw_tbl := gw_T6 _ (List.mem_of_getElem? (i := 155) rfl) rfl
theorem wd_1356 : Cond.selects "LateMirrorsModel" yX6_feed yX6_feed ∈ gw_tbl := gw_T6 _ (List.mem_of_getElem? (i := 156) rfl) rfl
theorem wd_1357 : Cond.code yX6_feed prog_8_method_3_code 6 (Option.some Jvm.ClassFile.FieldType.int) ∈ gw_tbl := gw_T6 _ (List.mem_of_getElem? (i := 157) rfl) rfl
theorem wd_1358 : Cond.methodLink "LateMirrorsModel" 193 yX6_put ∈ gw_tbl := gw_T6 _ (List.mem_of_getElem? (i := 158) rfl) rfl
theorem wd_1359 : Cond.privateMethod yX6_put ∈ lw_tbl := wd_T6 _ (List.mem_of_getElem? (i := 159) rfl)
theorem wd_1360 : Cond.instanceMethod yX6_put ∈ gw_tbl := gw_T6 _ (List.mem_of_getElem? (i := 160) rfl) rfl
theorem wd_1361 : Cond.code yX6_put prog_8_method_4_code 3 (Option.none : Option Jvm.ClassFile.FieldType) ∈ gw_tbl := gw_T6 _ (List.mem_of_getElem? (i := 161) rfl) rfl
theorem wd_1362 : Cond.methodLink "LateMirrorsLaw" 22 yX6_back ∈ gw_tbl := gw_T6 _ (List.mem_of_getElem? (i := 162) rfl) rfl
theorem wd_1363 : Cond.instanceMethod yX6_back ∈ gw_tbl := gw_T6 _ (List.mem_of_getElem? (i := 163) rfl) rfl
theorem wd_1364 : Cond.selects "LateMirrorsModel" yX6_back yX6_back ∈ gw_tbl := gw_T6 _ (List.mem_of_getElem? (i := 164) rfl) rfl
theorem wd_1365 : Cond.code yX6_back prog_8_method_5_code 2 (Option.some Jvm.ClassFile.FieldType.int) ∈ gw_tbl := gw_T6 _ (List.mem_of_getElem? (i := 165) rfl) rfl
theorem wd_1366 : Cond.methodLink "LateMirrorsLaw" 27 yX6_read ∈ gw_tbl := gw_T6 _ (List.mem_of_getElem? (i := 166) rfl) rfl
theorem wd_1367 : Cond.instanceMethod yX6_read ∈ gw_tbl := gw_T6 _ (List.mem_of_getElem? (i := 167) rfl) rfl
theorem wd_1368 : Cond.selects "LateMirrorsModel" yX6_read yX6_read ∈ gw_tbl := gw_T6 _ (List.mem_of_getElem? (i := 168) rfl) rfl
theorem wd_1369 : Cond.code yX6_read prog_8_method_20_code 2 (Option.some Jvm.ClassFile.FieldType.int) ∈ gw_tbl := gw_T6 _ (List.mem_of_getElem? (i := 169) rfl) rfl
theorem wd_1370 : Cond.methodLink "LateMirrorsModel" 251 yX6_cut ∈ gw_tbl := gw_T6 _ (List.mem_of_getElem? (i := 170) rfl) rfl
theorem wd_1371 : Cond.privateMethod yX6_cut ∈ lw_tbl := wd_T6 _ (List.mem_of_getElem? (i := 171) rfl)
theorem wd_1372 : Cond.instanceMethod yX6_cut ∈ gw_tbl := gw_T6 _ (List.mem_of_getElem? (i := 172) rfl) rfl
theorem wd_1373 : Cond.code yX6_cut prog_8_method_12_code 8 (Option.none : Option Jvm.ClassFile.FieldType) ∈ gw_tbl := gw_T6 _ (List.mem_of_getElem? (i := 173) rfl) rfl
theorem wd_1374 : Cond.methodLink "LateMirrorsModel" 208 yX6_byteAt ∈ gw_tbl := gw_T6 _ (List.mem_of_getElem? (i := 174) rfl) rfl
theorem wd_1375 : Cond.privateMethod yX6_byteAt ∈ lw_tbl := wd_T6 _ (List.mem_of_getElem? (i := 175) rfl)
theorem wd_1376 : Cond.instanceMethod yX6_byteAt ∈ gw_tbl := gw_T6 _ (List.mem_of_getElem? (i := 176) rfl) rfl
theorem wd_1377 : Cond.code yX6_byteAt prog_8_method_6_code 2 (Option.some Jvm.ClassFile.FieldType.int) ∈ gw_tbl := gw_T6 _ (List.mem_of_getElem? (i := 177) rfl) rfl
theorem wd_1378 : Cond.methodLink "LateMirrorsModel" 212 yX6_token ∈ gw_tbl := gw_T6 _ (List.mem_of_getElem? (i := 178) rfl) rfl
theorem wd_1379 : Cond.privateMethod yX6_token ∈ lw_tbl := wd_T6 _ (List.mem_of_getElem? (i := 179) rfl)
theorem wd_1380 : Cond.instanceMethod yX6_token ∈ gw_tbl := gw_T6 _ (List.mem_of_getElem? (i := 180) rfl) rfl
theorem wd_1381 : Cond.code yX6_token prog_8_method_11_code 6 (Option.none : Option Jvm.ClassFile.FieldType) ∈ gw_tbl := gw_T6 _ (List.mem_of_getElem? (i := 181) rfl) rfl
theorem wd_1382 : Cond.methodLink "LateMirrorsModel" 216 yX6_isLetter ∈ gw_tbl := gw_T6 _ (List.mem_of_getElem? (i := 182) rfl) rfl
theorem wd_1383 : Cond.static yX6_isLetter ∈ gw_tbl := gw_T6 _ (List.mem_of_getElem? (i := 183) rfl) rfl
theorem wd_1384 : Cond.code yX6_isLetter prog_8_method_8_code 1 (Option.some Jvm.ClassFile.FieldType.boolean) ∈ gw_tbl := gw_T6 _ (List.mem_of_getElem? (i := 184) rfl) rfl
theorem wd_1385 : Cond.methodLink "LateMirrorsModel" 220 yX6_isDigit ∈ gw_tbl := gw_T6 _ (List.mem_of_getElem? (i := 185) rfl) rfl
theorem wd_1386 : Cond.static yX6_isDigit ∈ gw_tbl := gw_T6 _ (List.mem_of_getElem? (i := 186) rfl) rfl
theorem wd_1387 : Cond.code yX6_isDigit prog_8_method_7_code 1 (Option.some Jvm.ClassFile.FieldType.boolean) ∈ gw_tbl := gw_T6 _ (List.mem_of_getElem? (i := 187) rfl) rfl
theorem wd_1388 : Cond.methodLink "LateMirrorsModel" 223 yX6_sign ∈ gw_tbl := gw_T6 _ (List.mem_of_getElem? (i := 188) rfl) rfl
theorem wd_1389 : Cond.privateMethod yX6_sign ∈ lw_tbl := wd_T6 _ (List.mem_of_getElem? (i := 189) rfl)
theorem wd_1390 : Cond.instanceMethod yX6_sign ∈ gw_tbl := gw_T6 _ (List.mem_of_getElem? (i := 190) rfl) rfl
theorem wd_1391 : Cond.code yX6_sign prog_8_method_13_code 5 (Option.some Jvm.ClassFile.FieldType.int) ∈ gw_tbl := gw_T6 _ (List.mem_of_getElem? (i := 191) rfl) rfl
theorem wd_1392 : Cond.methodLink "LateMirrorsModel" 245 yX6_is ∈ gw_tbl := gw_T6 _ (List.mem_of_getElem? (i := 192) rfl) rfl
theorem wd_1393 : Cond.privateMethod yX6_is ∈ lw_tbl := wd_T6 _ (List.mem_of_getElem? (i := 193) rfl)
theorem wd_1394 : Cond.instanceMethod yX6_is ∈ gw_tbl := gw_T6 _ (List.mem_of_getElem? (i := 194) rfl) rfl
theorem wd_1395 : Cond.code yX6_is prog_8_method_14_code 2 (Option.some Jvm.ClassFile.FieldType.boolean) ∈ gw_tbl := gw_T6 _ (List.mem_of_getElem? (i := 195) rfl) rfl
theorem wd_1396 : Cond.methodLink "LateMirrorsModel" 272 yX6_tellOne ∈ gw_tbl := gw_T6 _ (List.mem_of_getElem? (i := 196) rfl) rfl
theorem wd_1397 : Cond.privateMethod yX6_tellOne ∈ lw_tbl := wd_T6 _ (List.mem_of_getElem? (i := 197) rfl)
theorem wd_1398 : Cond.instanceMethod yX6_tellOne ∈ gw_tbl := gw_T6 _ (List.mem_of_getElem? (i := 198) rfl) rfl
theorem wd_1399 : Cond.code yX6_tellOne prog_8_method_23_code 2 (Option.none : Option Jvm.ClassFile.FieldType) ∈ gw_tbl := gw_T6 _ (List.mem_of_getElem? (i := 199) rfl) rfl
theorem wd_1400 : Cond.methodLink "LateMirrorsModel" 281 yX6_roomFor ∈ gw_tbl := gw_T6 _ (List.mem_of_getElem? (i := 200) rfl) rfl
theorem wd_1401 : Cond.privateMethod yX6_roomFor ∈ lw_tbl := wd_T6 _ (List.mem_of_getElem? (i := 201) rfl)
theorem wd_1402 : Cond.instanceMethod yX6_roomFor ∈ gw_tbl := gw_T6 _ (List.mem_of_getElem? (i := 202) rfl) rfl
theorem wd_1403 : Cond.code yX6_roomFor prog_8_method_22_code 3 (Option.none : Option Jvm.ClassFile.FieldType) ∈ gw_tbl := gw_T6 _ (List.mem_of_getElem? (i := 203) rfl) rfl
theorem wd_1404 : Cond.methodLink "LateMirrorsModel" 242 yX6_fail ∈ gw_tbl := gw_T6 _ (List.mem_of_getElem? (i := 204) rfl) rfl
theorem wd_1405 : Cond.privateMethod yX6_fail ∈ lw_tbl := wd_T6 _ (List.mem_of_getElem? (i := 205) rfl)
theorem wd_1406 : Cond.instanceMethod yX6_fail ∈ gw_tbl := gw_T6 _ (List.mem_of_getElem? (i := 206) rfl) rfl
theorem wd_1407 : Cond.code yX6_fail prog_8_method_15_code 2 (Option.none : Option Jvm.ClassFile.FieldType) ∈ gw_tbl := gw_T6 _ (List.mem_of_getElem? (i := 207) rfl) rfl
theorem wd_1408 : Cond.methodLink "LateMirrorsModel" 248 yX6_goesOn ∈ gw_tbl := gw_T6 _ (List.mem_of_getElem? (i := 208) rfl) rfl
theorem wd_1409 : Cond.privateMethod yX6_goesOn ∈ lw_tbl := wd_T6 _ (List.mem_of_getElem? (i := 209) rfl)
theorem wd_1410 : Cond.instanceMethod yX6_goesOn ∈ gw_tbl := gw_T6 _ (List.mem_of_getElem? (i := 210) rfl) rfl
theorem wd_1411 : Cond.code yX6_goesOn prog_8_method_17_code 1 (Option.none : Option Jvm.ClassFile.FieldType) ∈ gw_tbl := gw_T6 _ (List.mem_of_getElem? (i := 211) rfl) rfl
theorem wd_1412 : Cond.methodLink "LateMirrorsModel" 285 yX6_named ∈ gw_tbl := gw_T6 _ (List.mem_of_getElem? (i := 212) rfl) rfl
theorem wd_1413 : Cond.privateMethod yX6_named ∈ lw_tbl := wd_T6 _ (List.mem_of_getElem? (i := 213) rfl)
theorem wd_1414 : Cond.instanceMethod yX6_named ∈ gw_tbl := gw_T6 _ (List.mem_of_getElem? (i := 214) rfl) rfl
theorem wd_1415 : Cond.code yX6_named prog_8_method_24_code 3 (Option.some Jvm.ClassFile.FieldType.int) ∈ gw_tbl := gw_T6 _ (List.mem_of_getElem? (i := 215) rfl) rfl
theorem wd_1416 : Cond.methodLink "LateMirrorsModel" 289 yX6_must ∈ gw_tbl := gw_T6 _ (List.mem_of_getElem? (i := 216) rfl) rfl
theorem wd_1417 : Cond.privateMethod yX6_must ∈ lw_tbl := wd_T6 _ (List.mem_of_getElem? (i := 217) rfl)
theorem wd_1418 : Cond.instanceMethod yX6_must ∈ gw_tbl := gw_T6 _ (List.mem_of_getElem? (i := 218) rfl) rfl
theorem wd_1419 : Cond.code yX6_must prog_8_method_18_code 2 (Option.none : Option Jvm.ClassFile.FieldType) ∈ gw_tbl := gw_T6 _ (List.mem_of_getElem? (i := 219) rfl) rfl
theorem wd_1420 : Cond.methodLink "LateMirrorsModel" 315 yX6_wrong ∈ gw_tbl := gw_T6 _ (List.mem_of_getElem? (i := 220) rfl) rfl
theorem wd_1421 : Cond.privateMethod yX6_wrong ∈ lw_tbl := wd_T6 _ (List.mem_of_getElem? (i := 221) rfl)
theorem wd_1422 : Cond.instanceMethod yX6_wrong ∈ gw_tbl := gw_T6 _ (List.mem_of_getElem? (i := 222) rfl) rfl
theorem wd_1423 : Cond.code yX6_wrong prog_8_method_16_code 4 (Option.none : Option Jvm.ClassFile.FieldType) ∈ gw_tbl := gw_T6 _ (List.mem_of_getElem? (i := 223) rfl) rfl
theorem wd_1424 : Cond.methodLink "LateMirrorsModel" 292 yX6_notes ∈ gw_tbl := gw_T6 _ (List.mem_of_getElem? (i := 224) rfl) rfl
theorem wd_1425 : Cond.privateMethod yX6_notes ∈ lw_tbl := wd_T6 _ (List.mem_of_getElem? (i := 225) rfl)
theorem wd_1426 : Cond.instanceMethod yX6_notes ∈ gw_tbl := gw_T6 _ (List.mem_of_getElem? (i := 226) rfl) rfl
theorem wd_1427 : Cond.code yX6_notes prog_8_method_25_code 4 (Option.none : Option Jvm.ClassFile.FieldType) ∈ gw_tbl := gw_T6 _ (List.mem_of_getElem? (i := 227) rfl) rfl
theorem wd_1428 : Cond.methodLink "LateMirrorsModel" 296 yX6_tellDoor ∈ gw_tbl := gw_T6 _ (List.mem_of_getElem? (i := 228) rfl) rfl
theorem wd_1429 : Cond.privateMethod yX6_tellDoor ∈ lw_tbl := wd_T6 _ (List.mem_of_getElem? (i := 229) rfl)
theorem wd_1430 : Cond.instanceMethod yX6_tellDoor ∈ gw_tbl := gw_T6 _ (List.mem_of_getElem? (i := 230) rfl) rfl
theorem wd_1431 : Cond.code yX6_tellDoor prog_8_method_28_code 3 (Option.none : Option Jvm.ClassFile.FieldType) ∈ gw_tbl := gw_T6 _ (List.mem_of_getElem? (i := 231) rfl) rfl
theorem wd_1432 : Cond.methodLink "LateMirrorsModel" 302 yX6_known ∈ gw_tbl := gw_T6 _ (List.mem_of_getElem? (i := 232) rfl) rfl
theorem wd_1433 : Cond.privateMethod yX6_known ∈ lw_tbl := wd_T6 _ (List.mem_of_getElem? (i := 233) rfl)
theorem wd_1434 : Cond.instanceMethod yX6_known ∈ gw_tbl := gw_T6 _ (List.mem_of_getElem? (i := 234) rfl) rfl
theorem wd_1435 : Cond.code yX6_known prog_8_method_26_code 4 (Option.some Jvm.ClassFile.FieldType.int) ∈ gw_tbl := gw_T6 _ (List.mem_of_getElem? (i := 235) rfl) rfl
theorem wd_1436 : Cond.methodLink "LateMirrorsModel" 299 yX6_tellMan ∈ gw_tbl := gw_T6 _ (List.mem_of_getElem? (i := 236) rfl) rfl
theorem wd_1437 : Cond.privateMethod yX6_tellMan ∈ lw_tbl := wd_T6 _ (List.mem_of_getElem? (i := 237) rfl)
theorem wd_1438 : Cond.instanceMethod yX6_tellMan ∈ gw_tbl := gw_T6 _ (List.mem_of_getElem? (i := 238) rfl) rfl
theorem wd_1439 : Cond.code yX6_tellMan prog_8_method_29_code 3 (Option.none : Option Jvm.ClassFile.FieldType) ∈ gw_tbl := gw_T6 _ (List.mem_of_getElem? (i := 239) rfl) rfl
theorem wd_1440 : Cond.methodLink "LateMirrorsModel" 311 yX6_bounded ∈ gw_tbl := gw_T7 _ (List.mem_of_getElem? (i := 0) rfl) rfl
theorem wd_1441 : Cond.privateMethod yX6_bounded ∈ lw_tbl := wd_T7 _ (List.mem_of_getElem? (i := 1) rfl)
theorem wd_1442 : Cond.instanceMethod yX6_bounded ∈ gw_tbl := gw_T7 _ (List.mem_of_getElem? (i := 2) rfl) rfl
theorem wd_1443 : Cond.code yX6_bounded prog_8_method_27_code 4 (Option.some Jvm.ClassFile.FieldType.int) ∈ gw_tbl := gw_T7 _ (List.mem_of_getElem? (i := 3) rfl) rfl
theorem wd_1444 : Cond.methodLink "LateMirrorsModel" 305 yX6_tellLaw ∈ gw_tbl := gw_T7 _ (List.mem_of_getElem? (i := 4) rfl) rfl
theorem wd_1445 : Cond.privateMethod yX6_tellLaw ∈ lw_tbl := wd_T7 _ (List.mem_of_getElem? (i := 5) rfl)
theorem wd_1446 : Cond.instanceMethod yX6_tellLaw ∈ gw_tbl := gw_T7 _ (List.mem_of_getElem? (i := 6) rfl) rfl
theorem wd_1447 : Cond.code yX6_tellLaw prog_8_method_31_code 4 (Option.none : Option Jvm.ClassFile.FieldType) ∈ gw_tbl := gw_T7 _ (List.mem_of_getElem? (i := 7) rfl) rfl
theorem wd_1448 : Cond.methodLink "LateMirrorsModel" 318 yX6_expression ∈ gw_tbl := gw_T7 _ (List.mem_of_getElem? (i := 8) rfl) rfl
theorem wd_1449 : Cond.privateMethod yX6_expression ∈ lw_tbl := wd_T7 _ (List.mem_of_getElem? (i := 9) rfl)
theorem wd_1450 : Cond.instanceMethod yX6_expression ∈ gw_tbl := gw_T7 _ (List.mem_of_getElem? (i := 10) rfl) rfl
theorem wd_1451 : Cond.code yX6_expression prog_8_method_35_code 3 (Option.none : Option Jvm.ClassFile.FieldType) ∈ gw_tbl := gw_T7 _ (List.mem_of_getElem? (i := 11) rfl) rfl
theorem wd_1452 : Cond.methodLink "LateMirrorsModel" 330 yX6_unit ∈ gw_tbl := gw_T7 _ (List.mem_of_getElem? (i := 12) rfl) rfl
theorem wd_1453 : Cond.privateMethod yX6_unit ∈ lw_tbl := wd_T7 _ (List.mem_of_getElem? (i := 13) rfl)
theorem wd_1454 : Cond.instanceMethod yX6_unit ∈ gw_tbl := gw_T7 _ (List.mem_of_getElem? (i := 14) rfl) rfl
theorem wd_1455 : Cond.code yX6_unit prog_8_method_36_code 1 (Option.none : Option Jvm.ClassFile.FieldType) ∈ gw_tbl := gw_T7 _ (List.mem_of_getElem? (i := 15) rfl) rfl
theorem wd_1456 : Cond.methodLink "LateMirrorsModel" 327 yX6_emit ∈ gw_tbl := gw_T7 _ (List.mem_of_getElem? (i := 16) rfl) rfl
theorem wd_1457 : Cond.privateMethod yX6_emit ∈ lw_tbl := wd_T7 _ (List.mem_of_getElem? (i := 17) rfl)
theorem wd_1458 : Cond.instanceMethod yX6_emit ∈ gw_tbl := gw_T7 _ (List.mem_of_getElem? (i := 18) rfl) rfl
theorem wd_1459 : Cond.code yX6_emit prog_8_method_33_code 3 (Option.none : Option Jvm.ClassFile.FieldType) ∈ gw_tbl := gw_T7 _ (List.mem_of_getElem? (i := 19) rfl) rfl
theorem wd_1460 : Cond.methodLink "LateMirrorsModel" 333 yX6_comesOut ∈ gw_tbl := gw_T7 _ (List.mem_of_getElem? (i := 20) rfl) rfl
theorem wd_1461 : Cond.privateMethod yX6_comesOut ∈ lw_tbl := wd_T7 _ (List.mem_of_getElem? (i := 21) rfl)
theorem wd_1462 : Cond.instanceMethod yX6_comesOut ∈ gw_tbl := gw_T7 _ (List.mem_of_getElem? (i := 22) rfl) rfl
theorem wd_1463 : Cond.code yX6_comesOut prog_8_method_34_code 3 (Option.none : Option Jvm.ClassFile.FieldType) ∈ gw_tbl := gw_T7 _ (List.mem_of_getElem? (i := 23) rfl) rfl
theorem wd_1464 : Cond.methodLink "LateMirrorsModel" 321 yX6_term ∈ gw_tbl := gw_T7 _ (List.mem_of_getElem? (i := 24) rfl) rfl
theorem wd_1465 : Cond.privateMethod yX6_term ∈ lw_tbl := wd_T7 _ (List.mem_of_getElem? (i := 25) rfl)
theorem wd_1466 : Cond.instanceMethod yX6_term ∈ gw_tbl := gw_T7 _ (List.mem_of_getElem? (i := 26) rfl) rfl
theorem wd_1467 : Cond.code yX6_term prog_8_method_32_code 1 (Option.none : Option Jvm.ClassFile.FieldType) ∈ gw_tbl := gw_T7 _ (List.mem_of_getElem? (i := 27) rfl) rfl
theorem wd_1468 : Cond.methodLink "LateMirrorsModel" 308 yX6_tellMirror ∈ gw_tbl := gw_T7 _ (List.mem_of_getElem? (i := 28) rfl) rfl
theorem wd_1469 : Cond.privateMethod yX6_tellMirror ∈ lw_tbl := wd_T7 _ (List.mem_of_getElem? (i := 29) rfl)
theorem wd_1470 : Cond.instanceMethod yX6_tellMirror ∈ gw_tbl := gw_T7 _ (List.mem_of_getElem? (i := 30) rfl) rfl
theorem wd_1471 : Cond.code yX6_tellMirror prog_8_method_30_code 3 (Option.none : Option Jvm.ClassFile.FieldType) ∈ gw_tbl := gw_T7 _ (List.mem_of_getElem? (i := 31) rfl) rfl
theorem wd_1472 : Cond.methodLink "LateMirrorsLaw" 31 yX6_place ∈ gw_tbl := gw_T7 _ (List.mem_of_getElem? (i := 32) rfl) rfl
theorem wd_1473 : Cond.instanceMethod yX6_place ∈ gw_tbl := gw_T7 _ (List.mem_of_getElem? (i := 33) rfl) rfl
theorem wd_1474 : Cond.selects "LateMirrorsModel" yX6_place yX6_place ∈ gw_tbl := gw_T7 _ (List.mem_of_getElem? (i := 34) rfl) rfl
theorem wd_1475 : Cond.code yX6_place prog_8_method_21_code 1 (Option.some Jvm.ClassFile.FieldType.int) ∈ gw_tbl := gw_T7 _ (List.mem_of_getElem? (i := 35) rfl) rfl
theorem wd_1476 : Cond.methodLink "LateMirrorsLaw" 36 yX6_man ∈ gw_tbl := gw_T7 _ (List.mem_of_getElem? (i := 36) rfl) rfl
theorem wd_1477 : Cond.instanceMethod yX6_man ∈ gw_tbl := gw_T7 _ (List.mem_of_getElem? (i := 37) rfl) rfl
theorem wd_1478 : Cond.selects "LateMirrorsModel" yX6_man yX6_man ∈ gw_tbl := gw_T7 _ (List.mem_of_getElem? (i := 38) rfl) rfl
theorem wd_1479 : Cond.code yX6_man prog_8_method_65_code 4 (Option.some Jvm.ClassFile.FieldType.int) ∈ gw_tbl := gw_T7 _ (List.mem_of_getElem? (i := 39) rfl) rfl
theorem wd_1480 : Cond.methodLink "LateMirrorsModel" 410 yX6_isMan ∈ gw_tbl := gw_T7 _ (List.mem_of_getElem? (i := 40) rfl) rfl
theorem wd_1481 : Cond.privateMethod yX6_isMan ∈ lw_tbl := wd_T7 _ (List.mem_of_getElem? (i := 41) rfl)
theorem wd_1482 : Cond.instanceMethod yX6_isMan ∈ gw_tbl := gw_T7 _ (List.mem_of_getElem? (i := 42) rfl) rfl
theorem wd_1483 : Cond.code yX6_isMan prog_8_method_40_code 2 (Option.some Jvm.ClassFile.FieldType.boolean) ∈ gw_tbl := gw_T7 _ (List.mem_of_getElem? (i := 43) rfl) rfl
theorem wd_1484 : Cond.methodLink "LateMirrorsModel" 341 yX6_in ∈ gw_tbl := gw_T7 _ (List.mem_of_getElem? (i := 44) rfl) rfl
theorem wd_1485 : Cond.static yX6_in ∈ gw_tbl := gw_T7 _ (List.mem_of_getElem? (i := 45) rfl) rfl
theorem wd_1486 : Cond.code yX6_in prog_8_method_38_code 3 (Option.some Jvm.ClassFile.FieldType.boolean) ∈ gw_tbl := gw_T7 _ (List.mem_of_getElem? (i := 46) rfl) rfl
theorem wd_1487 : Cond.methodLink "LateMirrorsModel" 413 yX6_isPast ∈ gw_tbl := gw_T7 _ (List.mem_of_getElem? (i := 47) rfl) rfl
theorem wd_1488 : Cond.privateMethod yX6_isPast ∈ lw_tbl := wd_T7 _ (List.mem_of_getElem? (i := 48) rfl)
theorem wd_1489 : Cond.instanceMethod yX6_isPast ∈ gw_tbl := gw_T7 _ (List.mem_of_getElem? (i := 49) rfl) rfl
theorem wd_1490 : Cond.code yX6_isPast prog_8_method_42_code 2 (Option.some Jvm.ClassFile.FieldType.boolean) ∈ gw_tbl := gw_T7 _ (List.mem_of_getElem? (i := 50) rfl) rfl
theorem wd_1491 : Cond.methodLink "LateMirrorsLaw" 40 yX6_mirror ∈ gw_tbl := gw_T7 _ (List.mem_of_getElem? (i := 51) rfl) rfl
theorem wd_1492 : Cond.instanceMethod yX6_mirror ∈ gw_tbl := gw_T7 _ (List.mem_of_getElem? (i := 52) rfl) rfl
theorem wd_1493 : Cond.selects "LateMirrorsModel" yX6_mirror yX6_mirror ∈ gw_tbl := gw_T7 _ (List.mem_of_getElem? (i := 53) rfl) rfl
theorem wd_1494 : Cond.code yX6_mirror prog_8_method_66_code 5 (Option.some Jvm.ClassFile.FieldType.int) ∈ gw_tbl := gw_T7 _ (List.mem_of_getElem? (i := 54) rfl) rfl
theorem wd_1495 : Cond.methodLink "LateMirrorsModel" 416 yX6_isMirror ∈ gw_tbl := gw_T7 _ (List.mem_of_getElem? (i := 55) rfl) rfl
theorem wd_1496 : Cond.privateMethod yX6_isMirror ∈ lw_tbl := wd_T7 _ (List.mem_of_getElem? (i := 56) rfl)
theorem wd_1497 : Cond.instanceMethod yX6_isMirror ∈ gw_tbl := gw_T7 _ (List.mem_of_getElem? (i := 57) rfl) rfl
theorem wd_1498 : Cond.code yX6_isMirror prog_8_method_41_code 2 (Option.some Jvm.ClassFile.FieldType.boolean) ∈ gw_tbl := gw_T7 _ (List.mem_of_getElem? (i := 58) rfl) rfl
theorem wd_1499 : Cond.methodLink "LateMirrorsModel" 419 yX6_copies ∈ gw_tbl := gw_T7 _ (List.mem_of_getElem? (i := 59) rfl) rfl
theorem wd_1500 : Cond.privateMethod yX6_copies ∈ lw_tbl := wd_T7 _ (List.mem_of_getElem? (i := 60) rfl)
theorem wd_1501 : Cond.instanceMethod yX6_copies ∈ gw_tbl := gw_T7 _ (List.mem_of_getElem? (i := 61) rfl) rfl
theorem wd_1502 : Cond.code yX6_copies prog_8_method_46_code 2 (Option.none : Option Jvm.ClassFile.FieldType) ∈ gw_tbl := gw_T7 _ (List.mem_of_getElem? (i := 62) rfl) rfl
theorem wd_1503 : Cond.methodLink "LateMirrorsModel" 395 yX6_showsAt ∈ gw_tbl := gw_T7 _ (List.mem_of_getElem? (i := 63) rfl) rfl
theorem wd_1504 : Cond.privateMethod yX6_showsAt ∈ lw_tbl := wd_T7 _ (List.mem_of_getElem? (i := 64) rfl)
theorem wd_1505 : Cond.instanceMethod yX6_showsAt ∈ gw_tbl := gw_T7 _ (List.mem_of_getElem? (i := 65) rfl) rfl
theorem wd_1506 : Cond.code yX6_showsAt prog_8_method_59_code 4 (Option.some Jvm.ClassFile.FieldType.int) ∈ gw_tbl := gw_T7 _ (List.mem_of_getElem? (i := 66) rfl) rfl
theorem wd_1507 : Cond.methodLink "LateMirrorsModel" 388 yX6_isTurned ∈ gw_tbl := gw_T7 _ (List.mem_of_getElem? (i := 67) rfl) rfl
theorem wd_1508 : Cond.privateMethod yX6_isTurned ∈ lw_tbl := wd_T7 _ (List.mem_of_getElem? (i := 68) rfl)
theorem wd_1509 : Cond.instanceMethod yX6_isTurned ∈ gw_tbl := gw_T7 _ (List.mem_of_getElem? (i := 69) rfl) rfl
theorem wd_1510 : Cond.code yX6_isTurned prog_8_method_58_code 3 (Option.some Jvm.ClassFile.FieldType.boolean) ∈ gw_tbl := gw_T7 _ (List.mem_of_getElem? (i := 70) rfl) rfl
theorem wd_1511 : Cond.methodLink "LateMirrorsModel" 392 yX6_hungIn ∈ gw_tbl := gw_T7 _ (List.mem_of_getElem? (i := 71) rfl) rfl
theorem wd_1512 : Cond.privateMethod yX6_hungIn ∈ lw_tbl := wd_T7 _ (List.mem_of_getElem? (i := 72) rfl)
theorem wd_1513 : Cond.instanceMethod yX6_hungIn ∈ gw_tbl := gw_T7 _ (List.mem_of_getElem? (i := 73) rfl) rfl
theorem wd_1514 : Cond.code yX6_hungIn prog_8_method_60_code 3 (Option.some Jvm.ClassFile.FieldType.int) ∈ gw_tbl := gw_T7 _ (List.mem_of_getElem? (i := 74) rfl) rfl
theorem wd_1515 : Cond.methodLink "LateMirrorsModel" 422 yX6_menShown ∈ gw_tbl := gw_T7 _ (List.mem_of_getElem? (i := 75) rfl) rfl
theorem wd_1516 : Cond.privateMethod yX6_menShown ∈ lw_tbl := wd_T7 _ (List.mem_of_getElem? (i := 76) rfl)
theorem wd_1517 : Cond.instanceMethod yX6_menShown ∈ gw_tbl := gw_T7 _ (List.mem_of_getElem? (i := 77) rfl) rfl
theorem wd_1518 : Cond.code yX6_menShown prog_8_method_61_code 3 (Option.some Jvm.ClassFile.FieldType.int) ∈ gw_tbl := gw_T7 _ (List.mem_of_getElem? (i := 78) rfl) rfl
theorem wd_1519 : Cond.methodLink "LateMirrorsLaw" 44 yX6_minutes ∈ gw_tbl := gw_T7 _ (List.mem_of_getElem? (i := 79) rfl) rfl
theorem wd_1520 : Cond.instanceMethod yX6_minutes ∈ gw_tbl := gw_T7 _ (List.mem_of_getElem? (i := 80) rfl) rfl
theorem wd_1521 : Cond.selects "LateMirrorsModel" yX6_minutes yX6_minutes ∈ gw_tbl := gw_T7 _ (List.mem_of_getElem? (i := 81) rfl) rfl
theorem wd_1522 : Cond.code yX6_minutes prog_8_method_68_code 2 (Option.some Jvm.ClassFile.FieldType.int) ∈ gw_tbl := gw_T7 _ (List.mem_of_getElem? (i := 82) rfl) rfl
theorem wd_1523 : Cond.methodLink "LateMirrorsModel" 425 yX6_goesTill ∈ gw_tbl := gw_T7 _ (List.mem_of_getElem? (i := 83) rfl) rfl
theorem wd_1524 : Cond.privateMethod yX6_goesTill ∈ lw_tbl := wd_T7 _ (List.mem_of_getElem? (i := 84) rfl)
theorem wd_1525 : Cond.instanceMethod yX6_goesTill ∈ gw_tbl := gw_T7 _ (List.mem_of_getElem? (i := 85) rfl) rfl
theorem wd_1526 : Cond.code yX6_goesTill prog_8_method_64_code 2 (Option.none : Option Jvm.ClassFile.FieldType) ∈ gw_tbl := gw_T7 _ (List.mem_of_getElem? (i := 86) rfl) rfl
theorem wd_1527 : Cond.methodLink "LateMirrorsModel" 407 yX6_minuteGoes ∈ gw_tbl := gw_T7 _ (List.mem_of_getElem? (i := 87) rfl) rfl
theorem wd_1528 : Cond.privateMethod yX6_minuteGoes ∈ lw_tbl := wd_T7 _ (List.mem_of_getElem? (i := 88) rfl)
theorem wd_1529 : Cond.instanceMethod yX6_minuteGoes ∈ gw_tbl := gw_T7 _ (List.mem_of_getElem? (i := 89) rfl) rfl
theorem wd_1530 : Cond.code yX6_minuteGoes prog_8_method_63_code 4 (Option.none : Option Jvm.ClassFile.FieldType) ∈ gw_tbl := gw_T7 _ (List.mem_of_getElem? (i := 90) rfl) rfl
theorem wd_1531 : Cond.methodLink "LateMirrorsModel" 398 yX6_goesTo ∈ gw_tbl := gw_T7 _ (List.mem_of_getElem? (i := 91) rfl) rfl
theorem wd_1532 : Cond.privateMethod yX6_goesTo ∈ lw_tbl := wd_T7 _ (List.mem_of_getElem? (i := 92) rfl)
theorem wd_1533 : Cond.instanceMethod yX6_goesTo ∈ gw_tbl := gw_T7 _ (List.mem_of_getElem? (i := 93) rfl) rfl
theorem wd_1534 : Cond.code yX6_goesTo prog_8_method_57_code 6 (Option.some Jvm.ClassFile.FieldType.int) ∈ gw_tbl := gw_T7 _ (List.mem_of_getElem? (i := 94) rfl) rfl
theorem wd_1535 : Cond.methodLink "LateMirrorsModel" 385 yX6_through ∈ gw_tbl := gw_T7 _ (List.mem_of_getElem? (i := 95) rfl) rfl
theorem wd_1536 : Cond.privateMethod yX6_through ∈ lw_tbl := wd_T7 _ (List.mem_of_getElem? (i := 96) rfl)
theorem wd_1537 : Cond.instanceMethod yX6_through ∈ gw_tbl := gw_T7 _ (List.mem_of_getElem? (i := 97) rfl) rfl
theorem wd_1538 : Cond.code yX6_through prog_8_method_50_code 7 (Option.some Jvm.ClassFile.FieldType.int) ∈ gw_tbl := gw_T7 _ (List.mem_of_getElem? (i := 98) rfl) rfl
theorem wd_1539 : Cond.methodLink "LateMirrorsModel" 401 yX6_lotOf ∈ gw_tbl := gw_T7 _ (List.mem_of_getElem? (i := 99) rfl) rfl
theorem wd_1540 : Cond.privateMethod yX6_lotOf ∈ lw_tbl := wd_T7 _ (List.mem_of_getElem? (i := 100) rfl)
theorem wd_1541 : Cond.instanceMethod yX6_lotOf ∈ gw_tbl := gw_T7 _ (List.mem_of_getElem? (i := 101) rfl) rfl
theorem wd_1542 : Cond.code yX6_lotOf prog_8_method_56_code 2 (Option.some Jvm.ClassFile.FieldType.int) ∈ gw_tbl := gw_T7 _ (List.mem_of_getElem? (i := 102) rfl) rfl
theorem wd_1543 : Cond.methodLink "LateMirrorsModel" 382 yX6_mixed ∈ gw_tbl := gw_T7 _ (List.mem_of_getElem? (i := 103) rfl) rfl
theorem wd_1544 : Cond.static yX6_mixed ∈ gw_tbl := gw_T7 _ (List.mem_of_getElem? (i := 104) rfl) rfl
theorem wd_1545 : Cond.code yX6_mixed prog_8_method_55_code 3 (Option.some Jvm.ClassFile.FieldType.int) ∈ gw_tbl := gw_T7 _ (List.mem_of_getElem? (i := 105) rfl) rfl
theorem wd_1546 : Cond.constant "LateMirrorsModel" 381 (1103515245 : Int32) ∈ gw_tbl := gw_T7 _ (List.mem_of_getElem? (i := 106) rfl) rfl
theorem wd_1547 : Cond.methodLink "LateMirrorsModel" 404 yX6_breaksNow ∈ gw_tbl := gw_T7 _ (List.mem_of_getElem? (i := 107) rfl) rfl
theorem wd_1548 : Cond.privateMethod yX6_breaksNow ∈ lw_tbl := wd_T7 _ (List.mem_of_getElem? (i := 108) rfl)
theorem wd_1549 : Cond.instanceMethod yX6_breaksNow ∈ gw_tbl := gw_T7 _ (List.mem_of_getElem? (i := 109) rfl) rfl
theorem wd_1550 : Cond.code yX6_breaksNow prog_8_method_62_code 2 (Option.none : Option Jvm.ClassFile.FieldType) ∈ gw_tbl := gw_T7 _ (List.mem_of_getElem? (i := 110) rfl) rfl
theorem wd_1551 : Cond.methodLink "LateMirrorsModel" 428 yX6_keeps ∈ gw_tbl := gw_T7 _ (List.mem_of_getElem? (i := 111) rfl) rfl
theorem wd_1552 : Cond.privateMethod yX6_keeps ∈ lw_tbl := wd_T7 _ (List.mem_of_getElem? (i := 112) rfl)
theorem wd_1553 : Cond.instanceMethod yX6_keeps ∈ gw_tbl := gw_T7 _ (List.mem_of_getElem? (i := 113) rfl) rfl
theorem wd_1554 : Cond.code yX6_keeps prog_8_method_67_code 3 (Option.none : Option Jvm.ClassFile.FieldType) ∈ gw_tbl := gw_T7 _ (List.mem_of_getElem? (i := 114) rfl) rfl
theorem wd_1555 : Cond.methodLink "LateMirrorsLaw" 49 yX6_go ∈ gw_tbl := gw_T7 _ (List.mem_of_getElem? (i := 115) rfl) rfl
theorem wd_1556 : Cond.instanceMethod yX6_go ∈ gw_tbl := gw_T7 _ (List.mem_of_getElem? (i := 116) rfl) rfl
theorem wd_1557 : Cond.selects "LateMirrorsModel" yX6_go yX6_go ∈ gw_tbl := gw_T7 _ (List.mem_of_getElem? (i := 117) rfl) rfl
theorem wd_1558 : Cond.code yX6_go prog_8_method_71_code 3 (Option.some Jvm.ClassFile.FieldType.boolean) ∈ gw_tbl := gw_T7 _ (List.mem_of_getElem? (i := 118) rfl) rfl
theorem wd_1559 : Cond.methodLink "LateMirrorsModel" 431 yX6_nowOf ∈ gw_tbl := gw_T7 _ (List.mem_of_getElem? (i := 119) rfl) rfl
theorem wd_1560 : Cond.privateMethod yX6_nowOf ∈ lw_tbl := wd_T7 _ (List.mem_of_getElem? (i := 120) rfl)
theorem wd_1561 : Cond.instanceMethod yX6_nowOf ∈ gw_tbl := gw_T7 _ (List.mem_of_getElem? (i := 121) rfl) rfl
theorem wd_1562 : Cond.code yX6_nowOf prog_8_method_70_code 2 (Option.some Jvm.ClassFile.FieldType.int) ∈ gw_tbl := gw_T7 _ (List.mem_of_getElem? (i := 122) rfl) rfl
theorem wd_1563 : Cond.methodLink "LateMirrorsModel" 434 yX6_becomes ∈ gw_tbl := gw_T7 _ (List.mem_of_getElem? (i := 123) rfl) rfl
theorem wd_1564 : Cond.privateMethod yX6_becomes ∈ lw_tbl := wd_T7 _ (List.mem_of_getElem? (i := 124) rfl)
theorem wd_1565 : Cond.instanceMethod yX6_becomes ∈ gw_tbl := gw_T7 _ (List.mem_of_getElem? (i := 125) rfl) rfl
theorem wd_1566 : Cond.code yX6_becomes prog_8_method_69_code 3 (Option.none : Option Jvm.ClassFile.FieldType) ∈ gw_tbl := gw_T7 _ (List.mem_of_getElem? (i := 126) rfl) rfl
theorem wd_1567 : Cond.methodLink "LateMirrorsLaw" 53 yX6_raise ∈ gw_tbl := gw_T7 _ (List.mem_of_getElem? (i := 127) rfl) rfl
theorem wd_1568 : Cond.instanceMethod yX6_raise ∈ gw_tbl := gw_T7 _ (List.mem_of_getElem? (i := 128) rfl) rfl
theorem wd_1569 : Cond.selects "LateMirrorsModel" yX6_raise yX6_raise ∈ gw_tbl := gw_T7 _ (List.mem_of_getElem? (i := 129) rfl) rfl
theorem wd_1570 : Cond.code yX6_raise prog_8_method_72_code 3 (Option.some Jvm.ClassFile.FieldType.boolean) ∈ gw_tbl := gw_T7 _ (List.mem_of_getElem? (i := 130) rfl) rfl
theorem wd_1571 : Cond.methodLink "LateMirrorsLaw" 57 yX6_carry ∈ gw_tbl := gw_T7 _ (List.mem_of_getElem? (i := 131) rfl) rfl
theorem wd_1572 : Cond.instanceMethod yX6_carry ∈ gw_tbl := gw_T7 _ (List.mem_of_getElem? (i := 132) rfl) rfl
theorem wd_1573 : Cond.selects "LateMirrorsModel" yX6_carry yX6_carry ∈ gw_tbl := gw_T7 _ (List.mem_of_getElem? (i := 133) rfl) rfl
theorem wd_1574 : Cond.code yX6_carry prog_8_method_73_code 3 (Option.some Jvm.ClassFile.FieldType.boolean) ∈ gw_tbl := gw_T7 _ (List.mem_of_getElem? (i := 134) rfl) rfl
theorem wd_1575 : Cond.methodLink "LateMirrorsModel" 437 yX6_isRoom ∈ gw_tbl := gw_T7 _ (List.mem_of_getElem? (i := 135) rfl) rfl
theorem wd_1576 : Cond.privateMethod yX6_isRoom ∈ lw_tbl := wd_T7 _ (List.mem_of_getElem? (i := 136) rfl)
theorem wd_1577 : Cond.instanceMethod yX6_isRoom ∈ gw_tbl := gw_T7 _ (List.mem_of_getElem? (i := 137) rfl) rfl
theorem wd_1578 : Cond.code yX6_isRoom prog_8_method_39_code 2 (Option.some Jvm.ClassFile.FieldType.boolean) ∈ gw_tbl := gw_T7 _ (List.mem_of_getElem? (i := 138) rfl) rfl
theorem wd_1579 : Cond.methodLink "LateMirrorsLaw" 62 yX6_turn ∈ gw_tbl := gw_T7 _ (List.mem_of_getElem? (i := 139) rfl) rfl
theorem wd_1580 : Cond.instanceMethod yX6_turn ∈ gw_tbl := gw_T7 _ (List.mem_of_getElem? (i := 140) rfl) rfl
theorem wd_1581 : Cond.selects "LateMirrorsModel" yX6_turn yX6_turn ∈ gw_tbl := gw_T7 _ (List.mem_of_getElem? (i := 141) rfl) rfl
theorem wd_1582 : Cond.code yX6_turn prog_8_method_74_code 3 (Option.some Jvm.ClassFile.FieldType.boolean) ∈ gw_tbl := gw_T7 _ (List.mem_of_getElem? (i := 142) rfl) rfl
theorem wd_1583 : Cond.methodLink "LateMirrorsLaw" 67 yX6_smash ∈ gw_tbl := gw_T7 _ (List.mem_of_getElem? (i := 143) rfl) rfl
theorem wd_1584 : Cond.instanceMethod yX6_smash ∈ gw_tbl := gw_T7 _ (List.mem_of_getElem? (i := 144) rfl) rfl
theorem wd_1585 : Cond.selects "LateMirrorsModel" yX6_smash yX6_smash ∈ gw_tbl := gw_T7 _ (List.mem_of_getElem? (i := 145) rfl) rfl
theorem wd_1586 : Cond.code yX6_smash prog_8_method_75_code 2 (Option.some Jvm.ClassFile.FieldType.boolean) ∈ gw_tbl := gw_T7 _ (List.mem_of_getElem? (i := 146) rfl) rfl
theorem wd_1587 : Cond.methodLink "LateMirrorsLaw" 72 yX6_undo ∈ gw_tbl := gw_T7 _ (List.mem_of_getElem? (i := 147) rfl) rfl
theorem wd_1588 : Cond.instanceMethod yX6_undo ∈ gw_tbl := gw_T7 _ (List.mem_of_getElem? (i := 148) rfl) rfl
theorem wd_1589 : Cond.selects "LateMirrorsModel" yX6_undo yX6_undo ∈ gw_tbl := gw_T7 _ (List.mem_of_getElem? (i := 149) rfl) rfl
theorem wd_1590 : Cond.code yX6_undo prog_8_method_76_code 3 (Option.some Jvm.ClassFile.FieldType.boolean) ∈ gw_tbl := gw_T7 _ (List.mem_of_getElem? (i := 150) rfl) rfl
theorem wd_1591 : Cond.methodLink "LateMirrorsLaw" 77 yX6_look ∈ gw_tbl := gw_T7 _ (List.mem_of_getElem? (i := 151) rfl) rfl
theorem wd_1592 : Cond.instanceMethod yX6_look ∈ gw_tbl := gw_T7 _ (List.mem_of_getElem? (i := 152) rfl) rfl
theorem wd_1593 : Cond.selects "LateMirrorsModel" yX6_look yX6_look ∈ gw_tbl := gw_T7 _ (List.mem_of_getElem? (i := 153) rfl) rfl
theorem wd_1594 : Cond.code yX6_look prog_8_method_78_code 7 (Option.some Jvm.ClassFile.FieldType.int) ∈ gw_tbl := gw_T7 _ (List.mem_of_getElem? (i := 154) rfl) rfl
theorem wd_1595 : Cond.methodLink "LateMirrorsModel" 440 yX6_seenIn ∈ gw_tbl := gw_T7 _ (List.mem_of_getElem? (i := 155) rfl) rfl
theorem wd_1596 : Cond.privateMethod yX6_seenIn ∈ lw_tbl := wd_T7 _ (List.mem_of_getElem? (i := 156) rfl)
theorem wd_1597 : Cond.instanceMethod yX6_seenIn ∈ gw_tbl := gw_T7 _ (List.mem_of_getElem? (i := 157) rfl) rfl
theorem wd_1598 : Cond.code yX6_seenIn prog_8_method_77_code 4 (Option.some Jvm.ClassFile.FieldType.int) ∈ gw_tbl := gw_T7 _ (List.mem_of_getElem? (i := 158) rfl) rfl
theorem wd_1599 : Cond.methodLink "LateMirrorsLaw" 103 yX6_facing ∈ gw_tbl := gw_T7 _ (List.mem_of_getElem? (i := 159) rfl) rfl
theorem wd_1600 : Cond.instanceMethod yX6_facing ∈ gw_tbl := gw_T7 _ (List.mem_of_getElem? (i := 160) rfl) rfl
theorem wd_1601 : Cond.selects "LateMirrorsModel" yX6_facing yX6_facing ∈ gw_tbl := gw_T7 _ (List.mem_of_getElem? (i := 161) rfl) rfl
theorem wd_1602 : Cond.code yX6_facing prog_8_method_79_code 6 (Option.some Jvm.ClassFile.FieldType.int) ∈ gw_tbl := gw_T7 _ (List.mem_of_getElem? (i := 162) rfl) rfl
theorem wd_1603 : Cond.methodLink "LateMirrorsLaw" 123 yX6_deepest ∈ gw_tbl := gw_T7 _ (List.mem_of_getElem? (i := 163) rfl) rfl
theorem wd_1604 : Cond.instanceMethod yX6_deepest ∈ gw_tbl := gw_T7 _ (List.mem_of_getElem? (i := 164) rfl) rfl
theorem wd_1605 : Cond.selects "LateMirrorsModel" yX6_deepest yX6_deepest ∈ gw_tbl := gw_T7 _ (List.mem_of_getElem? (i := 165) rfl) rfl
theorem wd_1606 : Cond.code yX6_deepest prog_8_method_80_code 9 (Option.some Jvm.ClassFile.FieldType.int) ∈ gw_tbl := gw_T7 _ (List.mem_of_getElem? (i := 166) rfl) rfl
theorem wd_1607 : Cond.methodLink "LateMirrorsLaw" 82 yX6_last ∈ gw_tbl := gw_T7 _ (List.mem_of_getElem? (i := 167) rfl) rfl
theorem wd_1608 : Cond.instanceMethod yX6_last ∈ gw_tbl := gw_T7 _ (List.mem_of_getElem? (i := 168) rfl) rfl
theorem wd_1609 : Cond.selects "LateMirrorsModel" yX6_last yX6_last ∈ gw_tbl := gw_T7 _ (List.mem_of_getElem? (i := 169) rfl) rfl
theorem wd_1610 : Cond.code yX6_last prog_8_method_81_code 4 (Option.some Jvm.ClassFile.FieldType.int) ∈ gw_tbl := gw_T7 _ (List.mem_of_getElem? (i := 170) rfl) rfl
theorem wd_1611 : Cond.methodLink "LateMirrorsLaw" 86 yX6_visits ∈ gw_tbl := gw_T7 _ (List.mem_of_getElem? (i := 171) rfl) rfl
theorem wd_1612 : Cond.instanceMethod yX6_visits ∈ gw_tbl := gw_T7 _ (List.mem_of_getElem? (i := 172) rfl) rfl
theorem wd_1613 : Cond.selects "LateMirrorsModel" yX6_visits yX6_visits ∈ gw_tbl := gw_T7 _ (List.mem_of_getElem? (i := 173) rfl) rfl
theorem wd_1614 : Cond.code yX6_visits prog_8_method_82_code 6 (Option.some Jvm.ClassFile.FieldType.int) ∈ gw_tbl := gw_T7 _ (List.mem_of_getElem? (i := 174) rfl) rfl
theorem wd_1615 : Cond.methodLink "LateMirrorsLaw" 91 yX6_alone ∈ gw_tbl := gw_T7 _ (List.mem_of_getElem? (i := 175) rfl) rfl
theorem wd_1616 : Cond.instanceMethod yX6_alone ∈ gw_tbl := gw_T7 _ (List.mem_of_getElem? (i := 176) rfl) rfl
theorem wd_1617 : Cond.selects "LateMirrorsModel" yX6_alone yX6_alone ∈ gw_tbl := gw_T7 _ (List.mem_of_getElem? (i := 177) rfl) rfl
theorem wd_1618 : Cond.code yX6_alone prog_8_method_85_code 6 (Option.some Jvm.ClassFile.FieldType.int) ∈ gw_tbl := gw_T7 _ (List.mem_of_getElem? (i := 178) rfl) rfl
theorem wd_1619 : Cond.methodLink "LateMirrorsModel" 446 yX6_aloneOf ∈ gw_tbl := gw_T7 _ (List.mem_of_getElem? (i := 179) rfl) rfl
theorem wd_1620 : Cond.privateMethod yX6_aloneOf ∈ lw_tbl := wd_T7 _ (List.mem_of_getElem? (i := 180) rfl)
theorem wd_1621 : Cond.instanceMethod yX6_aloneOf ∈ gw_tbl := gw_T7 _ (List.mem_of_getElem? (i := 181) rfl) rfl
theorem wd_1622 : Cond.code yX6_aloneOf prog_8_method_84_code 4 (Option.some Jvm.ClassFile.FieldType.int) ∈ gw_tbl := gw_T7 _ (List.mem_of_getElem? (i := 182) rfl) rfl
theorem wd_1623 : Cond.methodLink "LateMirrorsModel" 443 yX6_isAlone ∈ gw_tbl := gw_T7 _ (List.mem_of_getElem? (i := 183) rfl) rfl
theorem wd_1624 : Cond.privateMethod yX6_isAlone ∈ lw_tbl := wd_T7 _ (List.mem_of_getElem? (i := 184) rfl)
theorem wd_1625 : Cond.instanceMethod yX6_isAlone ∈ gw_tbl := gw_T7 _ (List.mem_of_getElem? (i := 185) rfl) rfl
theorem wd_1626 : Cond.code yX6_isAlone prog_8_method_83_code 3 (Option.some Jvm.ClassFile.FieldType.boolean) ∈ gw_tbl := gw_T7 _ (List.mem_of_getElem? (i := 186) rfl) rfl
theorem wd_1627 : Cond.methodLink "LateMirrorsLaw" 95 yX6_lonely ∈ gw_tbl := gw_T7 _ (List.mem_of_getElem? (i := 187) rfl) rfl
theorem wd_1628 : Cond.instanceMethod yX6_lonely ∈ gw_tbl := gw_T7 _ (List.mem_of_getElem? (i := 188) rfl) rfl
theorem wd_1629 : Cond.selects "LateMirrorsModel" yX6_lonely yX6_lonely ∈ gw_tbl := gw_T7 _ (List.mem_of_getElem? (i := 189) rfl) rfl
theorem wd_1630 : Cond.code yX6_lonely prog_8_method_86_code 3 (Option.some Jvm.ClassFile.FieldType.int) ∈ gw_tbl := gw_T7 _ (List.mem_of_getElem? (i := 190) rfl) rfl
theorem wd_1631 : Cond.methodLink "LateMirrorsLaw" 99 yX6_together ∈ gw_tbl := gw_T7 _ (List.mem_of_getElem? (i := 191) rfl) rfl
theorem wd_1632 : Cond.instanceMethod yX6_together ∈ gw_tbl := gw_T7 _ (List.mem_of_getElem? (i := 192) rfl) rfl
theorem wd_1633 : Cond.selects "LateMirrorsModel" yX6_together yX6_together ∈ gw_tbl := gw_T7 _ (List.mem_of_getElem? (i := 193) rfl) rfl
theorem wd_1634 : Cond.code yX6_together prog_8_method_87_code 7 (Option.some Jvm.ClassFile.FieldType.int) ∈ gw_tbl := gw_T7 _ (List.mem_of_getElem? (i := 194) rfl) rfl
theorem wd_1635 : Cond.methodLink "LateMirrorsLaw" 107 yX6_glimpses ∈ gw_tbl := gw_T7 _ (List.mem_of_getElem? (i := 195) rfl) rfl
theorem wd_1636 : Cond.instanceMethod yX6_glimpses ∈ gw_tbl := gw_T7 _ (List.mem_of_getElem? (i := 196) rfl) rfl
theorem wd_1637 : Cond.selects "LateMirrorsModel" yX6_glimpses yX6_glimpses ∈ gw_tbl := gw_T7 _ (List.mem_of_getElem? (i := 197) rfl) rfl
theorem wd_1638 : Cond.code yX6_glimpses prog_8_method_89_code 7 (Option.some Jvm.ClassFile.FieldType.int) ∈ gw_tbl := gw_T7 _ (List.mem_of_getElem? (i := 198) rfl) rfl
theorem wd_1639 : Cond.methodLink "LateMirrorsModel" 449 yX6_isGlimpsed ∈ gw_tbl := gw_T7 _ (List.mem_of_getElem? (i := 199) rfl) rfl
theorem wd_1640 : Cond.privateMethod yX6_isGlimpsed ∈ lw_tbl := wd_T7 _ (List.mem_of_getElem? (i := 200) rfl)
theorem wd_1641 : Cond.instanceMethod yX6_isGlimpsed ∈ gw_tbl := gw_T7 _ (List.mem_of_getElem? (i := 201) rfl) rfl
theorem wd_1642 : Cond.code yX6_isGlimpsed prog_8_method_88_code 5 (Option.some Jvm.ClassFile.FieldType.boolean) ∈ gw_tbl := gw_T7 _ (List.mem_of_getElem? (i := 202) rfl) rfl
theorem wd_1643 : Cond.methodLink "LateMirrorsLaw" 127 yX6_crowd ∈ gw_tbl := gw_T7 _ (List.mem_of_getElem? (i := 203) rfl) rfl
theorem wd_1644 : Cond.instanceMethod yX6_crowd ∈ gw_tbl := gw_T7 _ (List.mem_of_getElem? (i := 204) rfl) rfl
theorem wd_1645 : Cond.selects "LateMirrorsModel" yX6_crowd yX6_crowd ∈ gw_tbl := gw_T7 _ (List.mem_of_getElem? (i := 205) rfl) rfl
theorem wd_1646 : Cond.code yX6_crowd prog_8_method_90_code 5 (Option.some Jvm.ClassFile.FieldType.int) ∈ gw_tbl := gw_T7 _ (List.mem_of_getElem? (i := 206) rfl) rfl
theorem wd_1647 : Cond.methodLink "LateMirrorsLaw" 111 yX6_ghosts ∈ gw_tbl := gw_T7 _ (List.mem_of_getElem? (i := 207) rfl) rfl
theorem wd_1648 : Cond.instanceMethod yX6_ghosts ∈ gw_tbl := gw_T7 _ (List.mem_of_getElem? (i := 208) rfl) rfl
theorem wd_1649 : Cond.selects "LateMirrorsModel" yX6_ghosts yX6_ghosts ∈ gw_tbl := gw_T7 _ (List.mem_of_getElem? (i := 209) rfl) rfl
theorem wd_1650 : Cond.code yX6_ghosts prog_8_method_91_code 5 (Option.some Jvm.ClassFile.FieldType.int) ∈ gw_tbl := gw_T7 _ (List.mem_of_getElem? (i := 210) rfl) rfl
theorem wd_1651 : Cond.methodLink "LateMirrorsLaw" 115 yX6_oldest ∈ gw_tbl := gw_T7 _ (List.mem_of_getElem? (i := 211) rfl) rfl
theorem wd_1652 : Cond.instanceMethod yX6_oldest ∈ gw_tbl := gw_T7 _ (List.mem_of_getElem? (i := 212) rfl) rfl
theorem wd_1653 : Cond.selects "LateMirrorsModel" yX6_oldest yX6_oldest ∈ gw_tbl := gw_T7 _ (List.mem_of_getElem? (i := 213) rfl) rfl
theorem wd_1654 : Cond.code yX6_oldest prog_8_method_92_code 6 (Option.some Jvm.ClassFile.FieldType.int) ∈ gw_tbl := gw_T7 _ (List.mem_of_getElem? (i := 214) rfl) rfl
theorem wd_1655 : Cond.methodLink "LateMirrorsLaw" 119 yX6_shown ∈ gw_tbl := gw_T7 _ (List.mem_of_getElem? (i := 215) rfl) rfl
theorem wd_1656 : Cond.instanceMethod yX6_shown ∈ gw_tbl := gw_T7 _ (List.mem_of_getElem? (i := 216) rfl) rfl
theorem wd_1657 : Cond.selects "LateMirrorsModel" yX6_shown yX6_shown ∈ gw_tbl := gw_T7 _ (List.mem_of_getElem? (i := 217) rfl) rfl
theorem wd_1658 : Cond.code yX6_shown prog_8_method_93_code 7 (Option.some Jvm.ClassFile.FieldType.int) ∈ gw_tbl := gw_T7 _ (List.mem_of_getElem? (i := 218) rfl) rfl
theorem wd_1659 : Cond.methodLink "LateMirrorsLaw" 131 yX6_rankFor ∈ gw_tbl := gw_T7 _ (List.mem_of_getElem? (i := 219) rfl) rfl
theorem wd_1660 : Cond.instanceMethod yX6_rankFor ∈ gw_tbl := gw_T7 _ (List.mem_of_getElem? (i := 220) rfl) rfl
theorem wd_1661 : Cond.selects "LateMirrorsModel" yX6_rankFor yX6_rankFor ∈ gw_tbl := gw_T7 _ (List.mem_of_getElem? (i := 221) rfl) rfl
theorem wd_1662 : Cond.code yX6_rankFor prog_8_method_94_code 4 (Option.some Jvm.ClassFile.FieldType.int) ∈ gw_tbl := gw_T7 _ (List.mem_of_getElem? (i := 222) rfl) rfl
theorem wd_1663 : Cond.methodLink "LateMirrorsLaw" 147 yX6_still ∈ gw_tbl := gw_T7 _ (List.mem_of_getElem? (i := 223) rfl) rfl
theorem wd_1664 : Cond.instanceMethod yX6_still ∈ gw_tbl := gw_T7 _ (List.mem_of_getElem? (i := 224) rfl) rfl
theorem wd_1665 : Cond.selects "LateMirrorsModel" yX6_still yX6_still ∈ gw_tbl := gw_T7 _ (List.mem_of_getElem? (i := 225) rfl) rfl
theorem wd_1666 : Cond.code yX6_still prog_8_method_97_code 6 (Option.some Jvm.ClassFile.FieldType.int) ∈ gw_tbl := gw_T7 _ (List.mem_of_getElem? (i := 226) rfl) rfl
theorem wd_1667 : Cond.methodLink "LateMirrorsModel" 452 yX6_fillsAll ∈ gw_tbl := gw_T7 _ (List.mem_of_getElem? (i := 227) rfl) rfl
theorem wd_1668 : Cond.privateMethod yX6_fillsAll ∈ lw_tbl := wd_T7 _ (List.mem_of_getElem? (i := 228) rfl)
theorem wd_1669 : Cond.instanceMethod yX6_fillsAll ∈ gw_tbl := gw_T7 _ (List.mem_of_getElem? (i := 229) rfl) rfl
theorem wd_1670 : Cond.code yX6_fillsAll prog_8_method_95_code 1 (Option.none : Option Jvm.ClassFile.FieldType) ∈ gw_tbl := gw_T7 _ (List.mem_of_getElem? (i := 230) rfl) rfl
theorem wd_1671 : Cond.methodLink "LateMirrorsModel" 455 yX6_showsRoom ∈ gw_tbl := gw_T7 _ (List.mem_of_getElem? (i := 231) rfl) rfl
theorem wd_1672 : Cond.privateMethod yX6_showsRoom ∈ lw_tbl := wd_T7 _ (List.mem_of_getElem? (i := 232) rfl)
theorem wd_1673 : Cond.instanceMethod yX6_showsRoom ∈ gw_tbl := gw_T7 _ (List.mem_of_getElem? (i := 233) rfl) rfl
theorem wd_1674 : Cond.code yX6_showsRoom prog_8_method_96_code 5 (Option.some Jvm.ClassFile.FieldType.boolean) ∈ gw_tbl := gw_T7 _ (List.mem_of_getElem? (i := 234) rfl) rfl
theorem wd_1675 : Cond.methodLink "LateMirrorsLaw" 151 yX6_soonest ∈ gw_tbl := gw_T7 _ (List.mem_of_getElem? (i := 235) rfl) rfl
theorem wd_1676 : Cond.instanceMethod yX6_soonest ∈ gw_tbl := gw_T7 _ (List.mem_of_getElem? (i := 236) rfl) rfl
theorem wd_1677 : Cond.selects "LateMirrorsModel" yX6_soonest yX6_soonest ∈ gw_tbl := gw_T7 _ (List.mem_of_getElem? (i := 237) rfl) rfl
theorem wd_1678 : Cond.code yX6_soonest prog_8_method_98_code 6 (Option.some Jvm.ClassFile.FieldType.int) ∈ gw_tbl := gw_T7 _ (List.mem_of_getElem? (i := 238) rfl) rfl
theorem wd_1679 : Cond.methodLink "LateMirrorsLaw" 155 yX6_seen ∈ gw_tbl := gw_T7 _ (List.mem_of_getElem? (i := 239) rfl) rfl
theorem wd_1680 : Cond.instanceMethod yX6_seen ∈ gw_tbl := gw_T8 _ (List.mem_of_getElem? (i := 0) rfl) rfl
theorem wd_1681 : Cond.selects "LateMirrorsModel" yX6_seen yX6_seen ∈ gw_tbl := gw_T8 _ (List.mem_of_getElem? (i := 1) rfl) rfl
theorem wd_1682 : Cond.code yX6_seen prog_8_method_101_code 6 (Option.some Jvm.ClassFile.FieldType.int) ∈ gw_tbl := gw_T8 _ (List.mem_of_getElem? (i := 2) rfl) rfl
theorem wd_1683 : Cond.methodLink "LateMirrorsModel" 459 yX6_isLong ∈ gw_tbl := gw_T8 _ (List.mem_of_getElem? (i := 3) rfl) rfl
theorem wd_1684 : Cond.static yX6_isLong ∈ gw_tbl := gw_T8 _ (List.mem_of_getElem? (i := 4) rfl) rfl
theorem wd_1685 : Cond.code yX6_isLong prog_8_method_99_code 1 (Option.some Jvm.ClassFile.FieldType.boolean) ∈ gw_tbl := gw_T8 _ (List.mem_of_getElem? (i := 5) rfl) rfl
theorem wd_1686 : Cond.methodLink "LateMirrorsModel" 462 yX6_isSeenIn ∈ gw_tbl := gw_T8 _ (List.mem_of_getElem? (i := 6) rfl) rfl
theorem wd_1687 : Cond.privateMethod yX6_isSeenIn ∈ lw_tbl := wd_T8 _ (List.mem_of_getElem? (i := 7) rfl)
theorem wd_1688 : Cond.instanceMethod yX6_isSeenIn ∈ gw_tbl := gw_T8 _ (List.mem_of_getElem? (i := 8) rfl) rfl
theorem wd_1689 : Cond.code yX6_isSeenIn prog_8_method_100_code 4 (Option.some Jvm.ClassFile.FieldType.boolean) ∈ gw_tbl := gw_T8 _ (List.mem_of_getElem? (i := 9) rfl) rfl
theorem wd_1690 : Cond.methodLink "LateMirrorsLaw" 171 yX6_turned ∈ gw_tbl := gw_T8 _ (List.mem_of_getElem? (i := 10) rfl) rfl
theorem wd_1691 : Cond.instanceMethod yX6_turned ∈ gw_tbl := gw_T8 _ (List.mem_of_getElem? (i := 11) rfl) rfl
theorem wd_1692 : Cond.selects "LateMirrorsModel" yX6_turned yX6_turned ∈ gw_tbl := gw_T8 _ (List.mem_of_getElem? (i := 12) rfl) rfl
theorem wd_1693 : Cond.code yX6_turned prog_8_method_102_code 6 (Option.some Jvm.ClassFile.FieldType.int) ∈ gw_tbl := gw_T8 _ (List.mem_of_getElem? (i := 13) rfl) rfl
theorem wd_1694 : Cond.methodLink "LateMirrorsLaw" 139 yX6_willBe ∈ gw_tbl := gw_T8 _ (List.mem_of_getElem? (i := 14) rfl) rfl
theorem wd_1695 : Cond.instanceMethod yX6_willBe ∈ gw_tbl := gw_T8 _ (List.mem_of_getElem? (i := 15) rfl) rfl
theorem wd_1696 : Cond.selects "LateMirrorsModel" yX6_willBe yX6_willBe ∈ gw_tbl := gw_T8 _ (List.mem_of_getElem? (i := 16) rfl) rfl
theorem wd_1697 : Cond.code yX6_willBe prog_8_method_103_code 3 (Option.some Jvm.ClassFile.FieldType.int) ∈ gw_tbl := gw_T8 _ (List.mem_of_getElem? (i := 17) rfl) rfl
theorem wd_1698 : Cond.methodLink "LateMirrorsLaw" 175 yX6_odds ∈ gw_tbl := gw_T8 _ (List.mem_of_getElem? (i := 18) rfl) rfl
theorem wd_1699 : Cond.instanceMethod yX6_odds ∈ gw_tbl := gw_T8 _ (List.mem_of_getElem? (i := 19) rfl) rfl
theorem wd_1700 : Cond.selects "LateMirrorsModel" yX6_odds yX6_odds ∈ gw_tbl := gw_T8 _ (List.mem_of_getElem? (i := 20) rfl) rfl
theorem wd_1701 : Cond.code yX6_odds prog_8_method_104_code 6 (Option.some Jvm.ClassFile.FieldType.int) ∈ gw_tbl := gw_T8 _ (List.mem_of_getElem? (i := 21) rfl) rfl
theorem wd_1702 : Cond.methodLink "LateMirrorsLaw" 135 yX6_view ∈ gw_tbl := gw_T8 _ (List.mem_of_getElem? (i := 22) rfl) rfl
theorem wd_1703 : Cond.instanceMethod yX6_view ∈ gw_tbl := gw_T8 _ (List.mem_of_getElem? (i := 23) rfl) rfl
theorem wd_1704 : Cond.selects "LateMirrorsModel" yX6_view yX6_view ∈ gw_tbl := gw_T8 _ (List.mem_of_getElem? (i := 24) rfl) rfl
theorem wd_1705 : Cond.code yX6_view prog_8_method_106_code 8 (Option.some Jvm.ClassFile.FieldType.int) ∈ gw_tbl := gw_T8 _ (List.mem_of_getElem? (i := 25) rfl) rfl
theorem wd_1706 : Cond.methodLink "LateMirrorsModel" 465 yX6_fillsFar ∈ gw_tbl := gw_T8 _ (List.mem_of_getElem? (i := 26) rfl) rfl
theorem wd_1707 : Cond.privateMethod yX6_fillsFar ∈ lw_tbl := wd_T8 _ (List.mem_of_getElem? (i := 27) rfl)
theorem wd_1708 : Cond.instanceMethod yX6_fillsFar ∈ gw_tbl := gw_T8 _ (List.mem_of_getElem? (i := 28) rfl) rfl
theorem wd_1709 : Cond.code yX6_fillsFar prog_8_method_105_code 7 (Option.none : Option Jvm.ClassFile.FieldType) ∈ gw_tbl := gw_T8 _ (List.mem_of_getElem? (i := 29) rfl) rfl
theorem wd_1710 : Cond.methodLink "LateMirrorsLaw" 163 yX6_hidden ∈ gw_tbl := gw_T8 _ (List.mem_of_getElem? (i := 30) rfl) rfl
theorem wd_1711 : Cond.instanceMethod yX6_hidden ∈ gw_tbl := gw_T8 _ (List.mem_of_getElem? (i := 31) rfl) rfl
theorem wd_1712 : Cond.selects "LateMirrorsModel" yX6_hidden yX6_hidden ∈ gw_tbl := gw_T8 _ (List.mem_of_getElem? (i := 32) rfl) rfl
theorem wd_1713 : Cond.code yX6_hidden prog_8_method_108_code 6 (Option.some Jvm.ClassFile.FieldType.int) ∈ gw_tbl := gw_T8 _ (List.mem_of_getElem? (i := 33) rfl) rfl
theorem wd_1714 : Cond.methodLink "LateMirrorsModel" 468 yX6_watched ∈ gw_tbl := gw_T8 _ (List.mem_of_getElem? (i := 34) rfl) rfl
theorem wd_1715 : Cond.privateMethod yX6_watched ∈ lw_tbl := wd_T8 _ (List.mem_of_getElem? (i := 35) rfl)
theorem wd_1716 : Cond.instanceMethod yX6_watched ∈ gw_tbl := gw_T8 _ (List.mem_of_getElem? (i := 36) rfl) rfl
theorem wd_1717 : Cond.code yX6_watched prog_8_method_107_code 3 (Option.some Jvm.ClassFile.FieldType.int) ∈ gw_tbl := gw_T8 _ (List.mem_of_getElem? (i := 37) rfl) rfl
theorem wd_1718 : Cond.methodLink "LateMirrorsLaw" 167 yX6_stand ∈ gw_tbl := gw_T8 _ (List.mem_of_getElem? (i := 38) rfl) rfl
theorem wd_1719 : Cond.instanceMethod yX6_stand ∈ gw_tbl := gw_T8 _ (List.mem_of_getElem? (i := 39) rfl) rfl
theorem wd_1720 : Cond.selects "LateMirrorsModel" yX6_stand yX6_stand ∈ gw_tbl := gw_T8 _ (List.mem_of_getElem? (i := 40) rfl) rfl
theorem wd_1721 : Cond.code yX6_stand prog_8_method_110_code 4 (Option.some Jvm.ClassFile.FieldType.int) ∈ gw_tbl := gw_T8 _ (List.mem_of_getElem? (i := 41) rfl) rfl
theorem wd_1722 : Cond.methodLink "LateMirrorsModel" 471 yX6_seenFrom ∈ gw_tbl := gw_T8 _ (List.mem_of_getElem? (i := 42) rfl) rfl
theorem wd_1723 : Cond.privateMethod yX6_seenFrom ∈ lw_tbl := wd_T8 _ (List.mem_of_getElem? (i := 43) rfl)
theorem wd_1724 : Cond.instanceMethod yX6_seenFrom ∈ gw_tbl := gw_T8 _ (List.mem_of_getElem? (i := 44) rfl) rfl
theorem wd_1725 : Cond.code yX6_seenFrom prog_8_method_109_code 4 (Option.some Jvm.ClassFile.FieldType.int) ∈ gw_tbl := gw_T8 _ (List.mem_of_getElem? (i := 45) rfl) rfl
theorem wd_1726 : Cond.methodLink "LateMirrorsLaw" 143 yX6_rests ∈ gw_tbl := gw_T8 _ (List.mem_of_getElem? (i := 46) rfl) rfl
theorem wd_1727 : Cond.instanceMethod yX6_rests ∈ gw_tbl := gw_T8 _ (List.mem_of_getElem? (i := 47) rfl) rfl
theorem wd_1728 : Cond.selects "LateMirrorsModel" yX6_rests yX6_rests ∈ gw_tbl := gw_T8 _ (List.mem_of_getElem? (i := 48) rfl) rfl
theorem wd_1729 : Cond.code yX6_rests prog_8_method_113_code 7 (Option.some Jvm.ClassFile.FieldType.int) ∈ gw_tbl := gw_T8 _ (List.mem_of_getElem? (i := 49) rfl) rfl
theorem wd_1730 : Cond.methodLink "LateMirrorsModel" 477 yX6_isResting ∈ gw_tbl := gw_T8 _ (List.mem_of_getElem? (i := 50) rfl) rfl
theorem wd_1731 : Cond.privateMethod yX6_isResting ∈ lw_tbl := wd_T8 _ (List.mem_of_getElem? (i := 51) rfl)
theorem wd_1732 : Cond.instanceMethod yX6_isResting ∈ gw_tbl := gw_T8 _ (List.mem_of_getElem? (i := 52) rfl) rfl
theorem wd_1733 : Cond.code yX6_isResting prog_8_method_112_code 5 (Option.some Jvm.ClassFile.FieldType.boolean) ∈ gw_tbl := gw_T8 _ (List.mem_of_getElem? (i := 53) rfl) rfl
theorem wd_1734 : Cond.methodLink "LateMirrorsModel" 474 yX6_hasIn ∈ gw_tbl := gw_T8 _ (List.mem_of_getElem? (i := 54) rfl) rfl
theorem wd_1735 : Cond.privateMethod yX6_hasIn ∈ lw_tbl := wd_T8 _ (List.mem_of_getElem? (i := 55) rfl)
theorem wd_1736 : Cond.instanceMethod yX6_hasIn ∈ gw_tbl := gw_T8 _ (List.mem_of_getElem? (i := 56) rfl) rfl
theorem wd_1737 : Cond.code yX6_hasIn prog_8_method_111_code 4 (Option.some Jvm.ClassFile.FieldType.int) ∈ gw_tbl := gw_T8 _ (List.mem_of_getElem? (i := 57) rfl) rfl
theorem wd_1738 : Cond.methodLink "LateMirrorsLaw" 159 yX6_jolt ∈ gw_tbl := gw_T8 _ (List.mem_of_getElem? (i := 58) rfl) rfl
theorem wd_1739 : Cond.instanceMethod yX6_jolt ∈ gw_tbl := gw_T8 _ (List.mem_of_getElem? (i := 59) rfl) rfl
theorem wd_1740 : Cond.selects "LateMirrorsModel" yX6_jolt yX6_jolt ∈ gw_tbl := gw_T8 _ (List.mem_of_getElem? (i := 60) rfl) rfl
theorem wd_1741 : Cond.code yX6_jolt prog_8_method_114_code 10 (Option.some Jvm.ClassFile.FieldType.int) ∈ gw_tbl := gw_T8 _ (List.mem_of_getElem? (i := 61) rfl) rfl
theorem wd_1742 : Cond.methodLink "LateMirrorsLaw" 180 yX6_tell ∈ gw_tbl := gw_T8 _ (List.mem_of_getElem? (i := 62) rfl) rfl
theorem wd_1743 : Cond.instanceMethod yX6_tell ∈ gw_tbl := gw_T8 _ (List.mem_of_getElem? (i := 63) rfl) rfl
theorem wd_1744 : Cond.selects "LateMirrorsModel" yX6_tell yX6_tell ∈ gw_tbl := gw_T8 _ (List.mem_of_getElem? (i := 64) rfl) rfl
theorem wd_1745 : Cond.code yX6_tell prog_8_method_115_code 5 (Option.some Jvm.ClassFile.FieldType.int) ∈ gw_tbl := gw_T8 _ (List.mem_of_getElem? (i := 65) rfl) rfl
theorem wd_1746 : Cond.methodLink "LateMirrorsLaw" 184 yX6_forget ∈ gw_tbl := gw_T8 _ (List.mem_of_getElem? (i := 66) rfl) rfl
theorem wd_1747 : Cond.instanceMethod yX6_forget ∈ gw_tbl := gw_T8 _ (List.mem_of_getElem? (i := 67) rfl) rfl
theorem wd_1748 : Cond.selects "LateMirrorsModel" yX6_forget yX6_forget ∈ gw_tbl := gw_T8 _ (List.mem_of_getElem? (i := 68) rfl) rfl
theorem wd_1749 : Cond.code yX6_forget prog_8_method_116_code 2 (Option.some Jvm.ClassFile.FieldType.int) ∈ gw_tbl := gw_T8 _ (List.mem_of_getElem? (i := 69) rfl) rfl
theorem wd_1750 : Cond.methodLink "LateMirrorsLaw" 188 yX6_began ∈ gw_tbl := gw_T8 _ (List.mem_of_getElem? (i := 70) rfl) rfl
theorem wd_1751 : Cond.instanceMethod yX6_began ∈ gw_tbl := gw_T8 _ (List.mem_of_getElem? (i := 71) rfl) rfl
theorem wd_1752 : Cond.selects "LateMirrorsModel" yX6_began yX6_began ∈ gw_tbl := gw_T8 _ (List.mem_of_getElem? (i := 72) rfl) rfl
theorem wd_1753 : Cond.code yX6_began prog_8_method_118_code 6 (Option.some Jvm.ClassFile.FieldType.int) ∈ gw_tbl := gw_T8 _ (List.mem_of_getElem? (i := 73) rfl) rfl
theorem wd_1754 : Cond.methodLink "LateMirrorsModel" 480 yX6_isSo ∈ gw_tbl := gw_T8 _ (List.mem_of_getElem? (i := 74) rfl) rfl
theorem wd_1755 : Cond.privateMethod yX6_isSo ∈ lw_tbl := wd_T8 _ (List.mem_of_getElem? (i := 75) rfl)
theorem wd_1756 : Cond.instanceMethod yX6_isSo ∈ gw_tbl := gw_T8 _ (List.mem_of_getElem? (i := 76) rfl) rfl
theorem wd_1757 : Cond.code yX6_isSo prog_8_method_117_code 6 (Option.some Jvm.ClassFile.FieldType.boolean) ∈ gw_tbl := gw_T8 _ (List.mem_of_getElem? (i := 77) rfl) rfl
theorem wd_1758 : Cond.methodLink "LateMirrorsLaw" 192 yX6_hold ∈ gw_tbl := gw_T8 _ (List.mem_of_getElem? (i := 78) rfl) rfl
theorem wd_1759 : Cond.instanceMethod yX6_hold ∈ gw_tbl := gw_T8 _ (List.mem_of_getElem? (i := 79) rfl) rfl
theorem wd_1760 : Cond.selects "LateMirrorsModel" yX6_hold yX6_hold ∈ gw_tbl := gw_T8 _ (List.mem_of_getElem? (i := 80) rfl) rfl
theorem wd_1761 : Cond.code yX6_hold prog_8_method_119_code 3 (Option.some Jvm.ClassFile.FieldType.boolean) ∈ gw_tbl := gw_T8 _ (List.mem_of_getElem? (i := 81) rfl) rfl
theorem wd_1762 : Cond.methodLink "LateMirrorsLaw" 196 yX6_restore ∈ gw_tbl := gw_T8 _ (List.mem_of_getElem? (i := 82) rfl) rfl
theorem wd_1763 : Cond.instanceMethod yX6_restore ∈ gw_tbl := gw_T8 _ (List.mem_of_getElem? (i := 83) rfl) rfl
theorem wd_1764 : Cond.selects "LateMirrorsModel" yX6_restore yX6_restore ∈ gw_tbl := gw_T8 _ (List.mem_of_getElem? (i := 84) rfl) rfl
theorem wd_1765 : Cond.code yX6_restore prog_8_method_120_code 3 (Option.some Jvm.ClassFile.FieldType.boolean) ∈ gw_tbl := gw_T8 _ (List.mem_of_getElem? (i := 85) rfl) rfl
theorem wd_1766 : Cond.methodLink "LateMirrorsLaw" 200 yX6_count ∈ gw_tbl := gw_T8 _ (List.mem_of_getElem? (i := 86) rfl) rfl
theorem wd_1767 : Cond.instanceMethod yX6_count ∈ gw_tbl := gw_T8 _ (List.mem_of_getElem? (i := 87) rfl) rfl
theorem wd_1768 : Cond.selects "LateMirrorsModel" yX6_count yX6_count ∈ gw_tbl := gw_T8 _ (List.mem_of_getElem? (i := 88) rfl) rfl
theorem wd_1769 : Cond.code yX6_count prog_8_method_121_code 4 (Option.some Jvm.ClassFile.FieldType.int) ∈ gw_tbl := gw_T8 _ (List.mem_of_getElem? (i := 89) rfl) rfl
theorem wd_1770 : Cond.fieldLink "java/lang/String" 9 "java/lang/String" "value" "[B" ∈ gw_tbl := gw_T8 _ (List.mem_of_getElem? (i := 90) rfl) rfl
theorem wd_1771 : Cond.fieldLink "java/lang/String" 15 "java/lang/String" "coder" "B" ∈ gw_tbl := gw_T8 _ (List.mem_of_getElem? (i := 91) rfl) rfl
theorem wd_S1 : ∀ q ∈ lw_privs_1, Cond.selects q.1.cls q.1 q.1 ∈ gw_tbl := fun q h => List.mem_append_left _ (List.mem_map.mpr ⟨q, List.mem_append_left _ h, rfl⟩)
theorem wd_S2 : ∀ q ∈ lw_privs_2, Cond.selects q.1.cls q.1 q.1 ∈ gw_tbl := fun q h => List.mem_append_left _ (List.mem_map.mpr ⟨q, List.mem_append_right _ (List.mem_append_left _ h), rfl⟩)
theorem wd_S3 : ∀ q ∈ lw_privs_3, Cond.selects q.1.cls q.1 q.1 ∈ gw_tbl := fun q h => List.mem_append_left _ (List.mem_map.mpr ⟨q, List.mem_append_right _ (List.mem_append_right _ (List.mem_append_left _ h)), rfl⟩)
theorem wd_S4 : ∀ q ∈ lw_privs_4, Cond.selects q.1.cls q.1 q.1 ∈ gw_tbl := fun q h => List.mem_append_left _ (List.mem_map.mpr ⟨q, List.mem_append_right _ (List.mem_append_right _ (List.mem_append_right _ (List.mem_append_left _ h))), rfl⟩)
theorem wd_S5 : ∀ q ∈ lw_privs_5, Cond.selects q.1.cls q.1 q.1 ∈ gw_tbl := fun q h => List.mem_append_left _ (List.mem_map.mpr ⟨q, List.mem_append_right _ (List.mem_append_right _ (List.mem_append_right _ (List.mem_append_right _ (List.mem_append_left _ h)))), rfl⟩)
theorem wd_S6 : ∀ q ∈ lw_privs_6, Cond.selects q.1.cls q.1 q.1 ∈ gw_tbl := fun q h => List.mem_append_left _ (List.mem_map.mpr ⟨q, List.mem_append_right _ (List.mem_append_right _ (List.mem_append_right _ (List.mem_append_right _ (List.mem_append_right _ (List.mem_append_left _ h))))), rfl⟩)
theorem wd_S7 : ∀ q ∈ lw_privs_7, Cond.selects q.1.cls q.1 q.1 ∈ gw_tbl := fun q h => List.mem_append_left _ (List.mem_map.mpr ⟨q, List.mem_append_right _ (List.mem_append_right _ (List.mem_append_right _ (List.mem_append_right _ (List.mem_append_right _ (List.mem_append_right _ (List.mem_append_left _ h)))))), rfl⟩)
theorem wd_S8 : ∀ q ∈ lw_privs_8, Cond.selects q.1.cls q.1 q.1 ∈ gw_tbl := fun q h => List.mem_append_left _ (List.mem_map.mpr ⟨q, List.mem_append_right _ (List.mem_append_right _ (List.mem_append_right _ (List.mem_append_right _ (List.mem_append_right _ (List.mem_append_right _ (List.mem_append_right _ (List.mem_append_left _ h))))))), rfl⟩)
theorem wd_S9 : ∀ q ∈ lw_privs_9, Cond.selects q.1.cls q.1 q.1 ∈ gw_tbl := fun q h => List.mem_append_left _ (List.mem_map.mpr ⟨q, List.mem_append_right _ (List.mem_append_right _ (List.mem_append_right _ (List.mem_append_right _ (List.mem_append_right _ (List.mem_append_right _ (List.mem_append_right _ (List.mem_append_right _ (List.mem_append_left _ h)))))))), rfl⟩)
theorem wd_S10 : ∀ q ∈ lw_privs_10, Cond.selects q.1.cls q.1 q.1 ∈ gw_tbl := fun q h => List.mem_append_left _ (List.mem_map.mpr ⟨q, List.mem_append_right _ (List.mem_append_right _ (List.mem_append_right _ (List.mem_append_right _ (List.mem_append_right _ (List.mem_append_right _ (List.mem_append_right _ (List.mem_append_right _ (List.mem_append_right _ (h))))))))), rfl⟩)
theorem wd_s1_0 : Cond.selects RX4 yX4_clear yX4_clear ∈ gw_tbl := wd_S1 (yX4_clear, 19) (List.mem_of_getElem? (i := 0) rfl)
theorem wd_s1_1 : Cond.selects RX1 yX1_clear yX1_clear ∈ gw_tbl := wd_S1 (yX1_clear, 7) (List.mem_of_getElem? (i := 1) rfl)
theorem wd_s1_2 : Cond.selects RX1 yX1_emit yX1_emit ∈ gw_tbl := wd_S1 (yX1_emit, 7) (List.mem_of_getElem? (i := 2) rfl)
theorem wd_s1_3 : Cond.selects RX0 yX0_begin yX0_begin ∈ gw_tbl := wd_S1 (yX0_begin, 9) (List.mem_of_getElem? (i := 3) rfl)
theorem wd_s1_4 : Cond.selects RX0 yX0_setLates yX0_setLates ∈ gw_tbl := wd_S1 (yX0_setLates, 9) (List.mem_of_getElem? (i := 4) rfl)
theorem wd_s1_5 : Cond.selects RX4 yX4_ownerOf yX4_ownerOf ∈ gw_tbl := wd_S1 (yX4_ownerOf, 19) (List.mem_of_getElem? (i := 5) rfl)
theorem wd_s1_6 : Cond.selects RX0 yX0_rankOf yX0_rankOf ∈ gw_tbl := wd_S1 (yX0_rankOf, 9) (List.mem_of_getElem? (i := 6) rfl)
theorem wd_s1_7 : Cond.selects RX0 yX0_lateWith yX0_lateWith ∈ gw_tbl := wd_S1 (yX0_lateWith, 9) (List.mem_of_getElem? (i := 7) rfl)
theorem wd_s1_8 : Cond.selects RX0 yX0_hangOf yX0_hangOf ∈ gw_tbl := wd_S1 (yX0_hangOf, 9) (List.mem_of_getElem? (i := 8) rfl)
theorem wd_s1_9 : Cond.selects RX0 yX0_menIn yX0_menIn ∈ gw_tbl := wd_S1 (yX0_menIn, 9) (List.mem_of_getElem? (i := 9) rfl)
theorem wd_s1_10 : Cond.selects RX4 yX4_waysOf yX4_waysOf ∈ gw_tbl := wd_S1 (yX4_waysOf, 19) (List.mem_of_getElem? (i := 10) rfl)
theorem wd_s1_11 : Cond.selects RX1 yX1_setVars yX1_setVars ∈ gw_tbl := wd_S1 (yX1_setVars, 7) (List.mem_of_getElem? (i := 11) rfl)
theorem wd_s1_12 : Cond.selects RX1 yX1_valueOf yX1_valueOf ∈ gw_tbl := wd_S1 (yX1_valueOf, 7) (List.mem_of_getElem? (i := 12) rfl)
theorem wd_s1_13 : Cond.selects RX5 yX5_addBytes yX5_addBytes ∈ gw_tbl := wd_S1 (yX5_addBytes, 16) (List.mem_of_getElem? (i := 13) rfl)
theorem wd_s1_14 : Cond.selects RX3 yX3_scan yX3_scan ∈ gw_tbl := wd_S1 (yX3_scan, 15) (List.mem_of_getElem? (i := 14) rfl)
theorem wd_s1_15 : Cond.selects RX3 yX3_clear yX3_clear ∈ gw_tbl := wd_S1 (yX3_clear, 15) (List.mem_of_getElem? (i := 15) rfl)
theorem wd_s2_0 : Cond.selects RX3 yX3_kindOf yX3_kindOf ∈ gw_tbl := wd_S2 (yX3_kindOf, 15) (List.mem_of_getElem? (i := 0) rfl)
theorem wd_s2_1 : Cond.selects RX3 yX3_kindOfName yX3_kindOfName ∈ gw_tbl := wd_S2 (yX3_kindOfName, 15) (List.mem_of_getElem? (i := 1) rfl)
theorem wd_s2_2 : Cond.selects RX3 yX3_goesOn yX3_goesOn ∈ gw_tbl := wd_S2 (yX3_goesOn, 15) (List.mem_of_getElem? (i := 2) rfl)
theorem wd_s2_3 : Cond.selects RX3 yX3_tellBegins yX3_tellBegins ∈ gw_tbl := wd_S2 (yX3_tellBegins, 15) (List.mem_of_getElem? (i := 3) rfl)
theorem wd_s2_4 : Cond.selects RX3 yX3_lawGoesOn yX3_lawGoesOn ∈ gw_tbl := wd_S2 (yX3_lawGoesOn, 15) (List.mem_of_getElem? (i := 4) rfl)
theorem wd_s2_5 : Cond.selects RX3 yX3_beginE yX3_beginE ∈ gw_tbl := wd_S2 (yX3_beginE, 15) (List.mem_of_getElem? (i := 5) rfl)
theorem wd_s2_6 : Cond.selects RX3 yX3_unitBegins yX3_unitBegins ∈ gw_tbl := wd_S2 (yX3_unitBegins, 15) (List.mem_of_getElem? (i := 6) rfl)
theorem wd_s2_7 : Cond.selects RX3 yX3_unitEnded yX3_unitEnded ∈ gw_tbl := wd_S2 (yX3_unitEnded, 15) (List.mem_of_getElem? (i := 7) rfl)
theorem wd_s2_8 : Cond.selects RX3 yX3_partEnds yX3_partEnds ∈ gw_tbl := wd_S2 (yX3_partEnds, 15) (List.mem_of_getElem? (i := 8) rfl)
theorem wd_s2_9 : Cond.selects RX3 yX3_fail yX3_fail ∈ gw_tbl := wd_S2 (yX3_fail, 15) (List.mem_of_getElem? (i := 9) rfl)
theorem wd_s2_10 : Cond.selects RX3 yX3_tooMany yX3_tooMany ∈ gw_tbl := wd_S2 (yX3_tooMany, 15) (List.mem_of_getElem? (i := 10) rfl)
theorem wd_s2_11 : Cond.selects RX3 yX3_add yX3_add ∈ gw_tbl := wd_S2 (yX3_add, 15) (List.mem_of_getElem? (i := 11) rfl)
theorem wd_s2_12 : Cond.selects RX4 yX4_build yX4_build ∈ gw_tbl := wd_S2 (yX4_build, 19) (List.mem_of_getElem? (i := 12) rfl)
theorem wd_s2_13 : Cond.selects RX4 yX4_take yX4_take ∈ gw_tbl := wd_S2 (yX4_take, 19) (List.mem_of_getElem? (i := 13) rfl)
theorem wd_s2_14 : Cond.selects RX4 yX4_declare yX4_declare ∈ gw_tbl := wd_S2 (yX4_declare, 19) (List.mem_of_getElem? (i := 14) rfl)
theorem wd_s2_15 : Cond.selects RX4 yX4_meaningOf yX4_meaningOf ∈ gw_tbl := wd_S2 (yX4_meaningOf, 19) (List.mem_of_getElem? (i := 15) rfl)
theorem wd_s3_0 : Cond.selects RX4 yX4_fail yX4_fail ∈ gw_tbl := wd_S3 (yX4_fail, 19) (List.mem_of_getElem? (i := 0) rfl)
theorem wd_s3_1 : Cond.selects RX4 yX4_takeDoor yX4_takeDoor ∈ gw_tbl := wd_S3 (yX4_takeDoor, 19) (List.mem_of_getElem? (i := 1) rfl)
theorem wd_s3_2 : Cond.selects RX4 yX4_named yX4_named ∈ gw_tbl := wd_S3 (yX4_named, 19) (List.mem_of_getElem? (i := 2) rfl)
theorem wd_s3_3 : Cond.selects RX4 yX4_takeMan yX4_takeMan ∈ gw_tbl := wd_S3 (yX4_takeMan, 19) (List.mem_of_getElem? (i := 3) rfl)
theorem wd_s3_4 : Cond.selects RX4 yX4_number yX4_number ∈ gw_tbl := wd_S3 (yX4_number, 19) (List.mem_of_getElem? (i := 4) rfl)
theorem wd_s3_5 : Cond.selects RX1 yX1_compile yX1_compile ∈ gw_tbl := wd_S3 (yX1_compile, 7) (List.mem_of_getElem? (i := 5) rfl)
theorem wd_s3_6 : Cond.selects RX1 yX1_putOff yX1_putOff ∈ gw_tbl := wd_S3 (yX1_putOff, 7) (List.mem_of_getElem? (i := 6) rfl)
theorem wd_s3_7 : Cond.selects RX1 yX1_unwind yX1_unwind ∈ gw_tbl := wd_S3 (yX1_unwind, 7) (List.mem_of_getElem? (i := 7) rfl)
theorem wd_s3_8 : Cond.selects RX1 yX1_endPart yX1_endPart ∈ gw_tbl := wd_S3 (yX1_endPart, 7) (List.mem_of_getElem? (i := 8) rfl)
theorem wd_s3_9 : Cond.selects RX4 yX4_takeMirror yX4_takeMirror ∈ gw_tbl := wd_S3 (yX4_takeMirror, 19) (List.mem_of_getElem? (i := 9) rfl)
theorem wd_s3_10 : Cond.selects RX5 yX5_takeSpare yX5_takeSpare ∈ gw_tbl := wd_S3 (yX5_takeSpare, 16) (List.mem_of_getElem? (i := 10) rfl)
theorem wd_s3_11 : Cond.selects RX2 yX2_clear yX2_clear ∈ gw_tbl := wd_S3 (yX2_clear, 3) (List.mem_of_getElem? (i := 11) rfl)
theorem wd_s3_12 : Cond.selects RX5 yX5_isMan yX5_isMan ∈ gw_tbl := wd_S3 (yX5_isMan, 16) (List.mem_of_getElem? (i := 12) rfl)
theorem wd_s3_13 : Cond.selects RX5 yX5_isPast yX5_isPast ∈ gw_tbl := wd_S3 (yX5_isPast, 16) (List.mem_of_getElem? (i := 13) rfl)
theorem wd_s3_14 : Cond.selects RX0 yX0_roomOf yX0_roomOf ∈ gw_tbl := wd_S3 (yX0_roomOf, 9) (List.mem_of_getElem? (i := 14) rfl)
theorem wd_s3_15 : Cond.selects RX5 yX5_isMirror yX5_isMirror ∈ gw_tbl := wd_S3 (yX5_isMirror, 16) (List.mem_of_getElem? (i := 15) rfl)
theorem wd_s4_0 : Cond.selects RX0 yX0_lateOf yX0_lateOf ∈ gw_tbl := wd_S4 (yX0_lateOf, 9) (List.mem_of_getElem? (i := 0) rfl)
theorem wd_s4_1 : Cond.selects RX0 yX0_isTurned yX0_isTurned ∈ gw_tbl := wd_S4 (yX0_isTurned, 9) (List.mem_of_getElem? (i := 1) rfl)
theorem wd_s4_2 : Cond.selects RX0 yX0_isBroken yX0_isBroken ∈ gw_tbl := wd_S4 (yX0_isBroken, 9) (List.mem_of_getElem? (i := 2) rfl)
theorem wd_s4_3 : Cond.selects RX0 yX0_showing yX0_showing ∈ gw_tbl := wd_S4 (yX0_showing, 9) (List.mem_of_getElem? (i := 3) rfl)
theorem wd_s4_4 : Cond.selects RX0 yX0_roomShown yX0_roomShown ∈ gw_tbl := wd_S4 (yX0_roomShown, 9) (List.mem_of_getElem? (i := 4) rfl)
theorem wd_s4_5 : Cond.selects RX0 yX0_menShown yX0_menShown ∈ gw_tbl := wd_S4 (yX0_menShown, 9) (List.mem_of_getElem? (i := 5) rfl)
theorem wd_s4_6 : Cond.selects RX2 yX2_keep yX2_keep ∈ gw_tbl := wd_S4 (yX2_keep, 3) (List.mem_of_getElem? (i := 6) rfl)
theorem wd_s4_7 : Cond.selects RX0 yX0_keepIn yX0_keepIn ∈ gw_tbl := wd_S4 (yX0_keepIn, 9) (List.mem_of_getElem? (i := 7) rfl)
theorem wd_s4_8 : Cond.selects RX0 yX0_goTo yX0_goTo ∈ gw_tbl := wd_S4 (yX0_goTo, 9) (List.mem_of_getElem? (i := 8) rfl)
theorem wd_s4_9 : Cond.selects RX0 yX0_moveMen yX0_moveMen ∈ gw_tbl := wd_S4 (yX0_moveMen, 9) (List.mem_of_getElem? (i := 9) rfl)
theorem wd_s4_10 : Cond.selects RX0 yX0_roomAfter yX0_roomAfter ∈ gw_tbl := wd_S4 (yX0_roomAfter, 9) (List.mem_of_getElem? (i := 10) rfl)
theorem wd_s4_11 : Cond.selects RX4 yX4_wayTo yX4_wayTo ∈ gw_tbl := wd_S4 (yX4_wayTo, 19) (List.mem_of_getElem? (i := 11) rfl)
theorem wd_s4_12 : Cond.selects RX4 yX4_breaksAt yX4_breaksAt ∈ gw_tbl := wd_S4 (yX4_breaksAt, 19) (List.mem_of_getElem? (i := 12) rfl)
theorem wd_s4_13 : Cond.selects RX0 yX0_breakNow yX0_breakNow ∈ gw_tbl := wd_S4 (yX0_breakNow, 9) (List.mem_of_getElem? (i := 13) rfl)
theorem wd_s4_14 : Cond.selects RX0 yX0_putMan yX0_putMan ∈ gw_tbl := wd_S4 (yX0_putMan, 9) (List.mem_of_getElem? (i := 14) rfl)
theorem wd_s4_15 : Cond.selects RX0 yX0_putRank yX0_putRank ∈ gw_tbl := wd_S4 (yX0_putRank, 9) (List.mem_of_getElem? (i := 15) rfl)
theorem wd_s5_0 : Cond.selects RX5 yX5_isRoom yX5_isRoom ∈ gw_tbl := wd_S5 (yX5_isRoom, 16) (List.mem_of_getElem? (i := 0) rfl)
theorem wd_s5_1 : Cond.selects RX0 yX0_putMirror yX0_putMirror ∈ gw_tbl := wd_S5 (yX0_putMirror, 9) (List.mem_of_getElem? (i := 1) rfl)
theorem wd_s5_2 : Cond.selects RX0 yX0_putWall yX0_putWall ∈ gw_tbl := wd_S5 (yX0_putWall, 9) (List.mem_of_getElem? (i := 2) rfl)
theorem wd_s5_3 : Cond.selects RX2 yX2_takeBack yX2_takeBack ∈ gw_tbl := wd_S5 (yX2_takeBack, 3) (List.mem_of_getElem? (i := 3) rfl)
theorem wd_s5_4 : Cond.selects RX0 yX0_goBackTo yX0_goBackTo ∈ gw_tbl := wd_S5 (yX0_goBackTo, 9) (List.mem_of_getElem? (i := 4) rfl)
theorem wd_s5_5 : Cond.selects RX0 yX0_seenIn yX0_seenIn ∈ gw_tbl := wd_S5 (yX0_seenIn, 9) (List.mem_of_getElem? (i := 5) rfl)
theorem wd_s5_6 : Cond.selects RX5 yX5_facingTimes yX5_facingTimes ∈ gw_tbl := wd_S5 (yX5_facingTimes, 16) (List.mem_of_getElem? (i := 6) rfl)
theorem wd_s5_7 : Cond.selects RX5 yX5_facingMinute yX5_facingMinute ∈ gw_tbl := wd_S5 (yX5_facingMinute, 16) (List.mem_of_getElem? (i := 7) rfl)
theorem wd_s5_8 : Cond.selects RX0 yX0_menShownIn yX0_menShownIn ∈ gw_tbl := wd_S5 (yX0_menShownIn, 9) (List.mem_of_getElem? (i := 8) rfl)
theorem wd_s5_9 : Cond.selects RX5 yX5_tallyShown yX5_tallyShown ∈ gw_tbl := wd_S5 (yX5_tallyShown, 16) (List.mem_of_getElem? (i := 9) rfl)
theorem wd_s5_10 : Cond.selects RX5 yX5_aloneTimes yX5_aloneTimes ∈ gw_tbl := wd_S5 (yX5_aloneTimes, 16) (List.mem_of_getElem? (i := 10) rfl)
theorem wd_s5_11 : Cond.selects RX5 yX5_forecast yX5_forecast ∈ gw_tbl := wd_S5 (yX5_forecast, 16) (List.mem_of_getElem? (i := 11) rfl)
theorem wd_s5_12 : Cond.selects RX0 yX0_copyOf yX0_copyOf ∈ gw_tbl := wd_S5 (yX0_copyOf, 9) (List.mem_of_getElem? (i := 12) rfl)
theorem wd_s5_13 : Cond.selects RX5 yX5_showersOf yX5_showersOf ∈ gw_tbl := wd_S5 (yX5_showersOf, 16) (List.mem_of_getElem? (i := 13) rfl)
theorem wd_s5_14 : Cond.selects RX5 yX5_countSteps yX5_countSteps ∈ gw_tbl := wd_S5 (yX5_countSteps, 16) (List.mem_of_getElem? (i := 14) rfl)
theorem wd_s5_15 : Cond.selects RX4 yX4_doorEnd yX4_doorEnd ∈ gw_tbl := wd_S5 (yX4_doorEnd, 19) (List.mem_of_getElem? (i := 15) rfl)
theorem wd_s6_0 : Cond.selects RX5 yX5_mirrorsInReach yX5_mirrorsInReach ∈ gw_tbl := wd_S6 (yX5_mirrorsInReach, 16) (List.mem_of_getElem? (i := 0) rfl)
theorem wd_s6_1 : Cond.selects RX5 yX5_mirrorsWith yX5_mirrorsWith ∈ gw_tbl := wd_S6 (yX5_mirrorsWith, 16) (List.mem_of_getElem? (i := 1) rfl)
theorem wd_s6_2 : Cond.selects RX5 yX5_breaksBy yX5_breaksBy ∈ gw_tbl := wd_S6 (yX5_breaksBy, 16) (List.mem_of_getElem? (i := 2) rfl)
theorem wd_s6_3 : Cond.selects RX0 yX0_darkRooms yX0_darkRooms ∈ gw_tbl := wd_S6 (yX0_darkRooms, 9) (List.mem_of_getElem? (i := 3) rfl)
theorem wd_s6_4 : Cond.selects RX5 yX5_nextRoom yX5_nextRoom ∈ gw_tbl := wd_S6 (yX5_nextRoom, 16) (List.mem_of_getElem? (i := 4) rfl)
theorem wd_s6_5 : Cond.selects RX5 yX5_isRest yX5_isRest ∈ gw_tbl := wd_S6 (yX5_isRest, 16) (List.mem_of_getElem? (i := 5) rfl)
theorem wd_s6_6 : Cond.selects RX5 yX5_worth yX5_worth ∈ gw_tbl := wd_S6 (yX5_worth, 16) (List.mem_of_getElem? (i := 6) rfl)
theorem wd_s6_7 : Cond.selects RX5 yX5_canHaveBegun yX5_canHaveBegun ∈ gw_tbl := wd_S6 (yX5_canHaveBegun, 16) (List.mem_of_getElem? (i := 7) rfl)
theorem wd_s6_8 : Cond.selects RX0 yX0_brokenOnes yX0_brokenOnes ∈ gw_tbl := wd_S6 (yX0_brokenOnes, 9) (List.mem_of_getElem? (i := 8) rfl)
theorem wd_s6_9 : Cond.selects RX0 yX0_turnedOnes yX0_turnedOnes ∈ gw_tbl := wd_S6 (yX0_turnedOnes, 9) (List.mem_of_getElem? (i := 9) rfl)
theorem wd_s6_10 : Cond.selects RX6 yX6_plain yX6_plain ∈ gw_tbl := wd_S6 (yX6_plain, 75) (List.mem_of_getElem? (i := 10) rfl)
theorem wd_s6_11 : Cond.selects RX6 yX6_begins yX6_begins ∈ gw_tbl := wd_S6 (yX6_begins, 75) (List.mem_of_getElem? (i := 11) rfl)
theorem wd_s6_12 : Cond.selects RX6 yX6_beginsWith yX6_beginsWith ∈ gw_tbl := wd_S6 (yX6_beginsWith, 75) (List.mem_of_getElem? (i := 12) rfl)
theorem wd_s6_13 : Cond.selects RX6 yX6_fillsLate yX6_fillsLate ∈ gw_tbl := wd_S6 (yX6_fillsLate, 75) (List.mem_of_getElem? (i := 13) rfl)
theorem wd_s6_14 : Cond.selects RX6 yX6_rankOfOwner yX6_rankOfOwner ∈ gw_tbl := wd_S6 (yX6_rankOfOwner, 75) (List.mem_of_getElem? (i := 14) rfl)
theorem wd_s6_15 : Cond.selects RX6 yX6_lateBy yX6_lateBy ∈ gw_tbl := wd_S6 (yX6_lateBy, 75) (List.mem_of_getElem? (i := 15) rfl)
theorem wd_s7_0 : Cond.selects RX6 yX6_waysOf yX6_waysOf ∈ gw_tbl := wd_S7 (yX6_waysOf, 75) (List.mem_of_getElem? (i := 0) rfl)
theorem wd_s7_1 : Cond.selects RX6 yX6_menIn yX6_menIn ∈ gw_tbl := wd_S7 (yX6_menIn, 75) (List.mem_of_getElem? (i := 1) rfl)
theorem wd_s7_2 : Cond.selects RX6 yX6_tells yX6_tells ∈ gw_tbl := wd_S7 (yX6_tells, 75) (List.mem_of_getElem? (i := 2) rfl)
theorem wd_s7_3 : Cond.selects RX6 yX6_termOf yX6_termOf ∈ gw_tbl := wd_S7 (yX6_termOf, 75) (List.mem_of_getElem? (i := 3) rfl)
theorem wd_s7_4 : Cond.selects RX6 yX6_keepsRows yX6_keepsRows ∈ gw_tbl := wd_S7 (yX6_keepsRows, 75) (List.mem_of_getElem? (i := 4) rfl)
theorem wd_s7_5 : Cond.selects RX6 yX6_put yX6_put ∈ gw_tbl := wd_S7 (yX6_put, 75) (List.mem_of_getElem? (i := 5) rfl)
theorem wd_s7_6 : Cond.selects RX6 yX6_cut yX6_cut ∈ gw_tbl := wd_S7 (yX6_cut, 75) (List.mem_of_getElem? (i := 6) rfl)
theorem wd_s7_7 : Cond.selects RX6 yX6_byteAt yX6_byteAt ∈ gw_tbl := wd_S7 (yX6_byteAt, 75) (List.mem_of_getElem? (i := 7) rfl)
theorem wd_s7_8 : Cond.selects RX6 yX6_token yX6_token ∈ gw_tbl := wd_S7 (yX6_token, 75) (List.mem_of_getElem? (i := 8) rfl)
theorem wd_s7_9 : Cond.selects RX6 yX6_sign yX6_sign ∈ gw_tbl := wd_S7 (yX6_sign, 75) (List.mem_of_getElem? (i := 9) rfl)
theorem wd_s7_10 : Cond.selects RX6 yX6_is yX6_is ∈ gw_tbl := wd_S7 (yX6_is, 75) (List.mem_of_getElem? (i := 10) rfl)
theorem wd_s7_11 : Cond.selects RX6 yX6_tellOne yX6_tellOne ∈ gw_tbl := wd_S7 (yX6_tellOne, 75) (List.mem_of_getElem? (i := 11) rfl)
theorem wd_s7_12 : Cond.selects RX6 yX6_roomFor yX6_roomFor ∈ gw_tbl := wd_S7 (yX6_roomFor, 75) (List.mem_of_getElem? (i := 12) rfl)
theorem wd_s7_13 : Cond.selects RX6 yX6_fail yX6_fail ∈ gw_tbl := wd_S7 (yX6_fail, 75) (List.mem_of_getElem? (i := 13) rfl)
theorem wd_s7_14 : Cond.selects RX6 yX6_goesOn yX6_goesOn ∈ gw_tbl := wd_S7 (yX6_goesOn, 75) (List.mem_of_getElem? (i := 14) rfl)
theorem wd_s7_15 : Cond.selects RX6 yX6_named yX6_named ∈ gw_tbl := wd_S7 (yX6_named, 75) (List.mem_of_getElem? (i := 15) rfl)
theorem wd_s8_0 : Cond.selects RX6 yX6_must yX6_must ∈ gw_tbl := wd_S8 (yX6_must, 75) (List.mem_of_getElem? (i := 0) rfl)
theorem wd_s8_1 : Cond.selects RX6 yX6_wrong yX6_wrong ∈ gw_tbl := wd_S8 (yX6_wrong, 75) (List.mem_of_getElem? (i := 1) rfl)
theorem wd_s8_2 : Cond.selects RX6 yX6_notes yX6_notes ∈ gw_tbl := wd_S8 (yX6_notes, 75) (List.mem_of_getElem? (i := 2) rfl)
theorem wd_s8_3 : Cond.selects RX6 yX6_tellDoor yX6_tellDoor ∈ gw_tbl := wd_S8 (yX6_tellDoor, 75) (List.mem_of_getElem? (i := 3) rfl)
theorem wd_s8_4 : Cond.selects RX6 yX6_known yX6_known ∈ gw_tbl := wd_S8 (yX6_known, 75) (List.mem_of_getElem? (i := 4) rfl)
theorem wd_s8_5 : Cond.selects RX6 yX6_tellMan yX6_tellMan ∈ gw_tbl := wd_S8 (yX6_tellMan, 75) (List.mem_of_getElem? (i := 5) rfl)
theorem wd_s8_6 : Cond.selects RX6 yX6_bounded yX6_bounded ∈ gw_tbl := wd_S8 (yX6_bounded, 75) (List.mem_of_getElem? (i := 6) rfl)
theorem wd_s8_7 : Cond.selects RX6 yX6_tellLaw yX6_tellLaw ∈ gw_tbl := wd_S8 (yX6_tellLaw, 75) (List.mem_of_getElem? (i := 7) rfl)
theorem wd_s8_8 : Cond.selects RX6 yX6_expression yX6_expression ∈ gw_tbl := wd_S8 (yX6_expression, 75) (List.mem_of_getElem? (i := 8) rfl)
theorem wd_s8_9 : Cond.selects RX6 yX6_unit yX6_unit ∈ gw_tbl := wd_S8 (yX6_unit, 75) (List.mem_of_getElem? (i := 9) rfl)
theorem wd_s8_10 : Cond.selects RX6 yX6_emit yX6_emit ∈ gw_tbl := wd_S8 (yX6_emit, 75) (List.mem_of_getElem? (i := 10) rfl)
theorem wd_s8_11 : Cond.selects RX6 yX6_comesOut yX6_comesOut ∈ gw_tbl := wd_S8 (yX6_comesOut, 75) (List.mem_of_getElem? (i := 11) rfl)
theorem wd_s8_12 : Cond.selects RX6 yX6_term yX6_term ∈ gw_tbl := wd_S8 (yX6_term, 75) (List.mem_of_getElem? (i := 12) rfl)
theorem wd_s8_13 : Cond.selects RX6 yX6_tellMirror yX6_tellMirror ∈ gw_tbl := wd_S8 (yX6_tellMirror, 75) (List.mem_of_getElem? (i := 13) rfl)
theorem wd_s8_14 : Cond.selects RX6 yX6_isMan yX6_isMan ∈ gw_tbl := wd_S8 (yX6_isMan, 75) (List.mem_of_getElem? (i := 14) rfl)
theorem wd_s8_15 : Cond.selects RX6 yX6_isPast yX6_isPast ∈ gw_tbl := wd_S8 (yX6_isPast, 75) (List.mem_of_getElem? (i := 15) rfl)
theorem wd_s9_0 : Cond.selects RX6 yX6_isMirror yX6_isMirror ∈ gw_tbl := wd_S9 (yX6_isMirror, 75) (List.mem_of_getElem? (i := 0) rfl)
theorem wd_s9_1 : Cond.selects RX6 yX6_copies yX6_copies ∈ gw_tbl := wd_S9 (yX6_copies, 75) (List.mem_of_getElem? (i := 1) rfl)
theorem wd_s9_2 : Cond.selects RX6 yX6_showsAt yX6_showsAt ∈ gw_tbl := wd_S9 (yX6_showsAt, 75) (List.mem_of_getElem? (i := 2) rfl)
theorem wd_s9_3 : Cond.selects RX6 yX6_isTurned yX6_isTurned ∈ gw_tbl := wd_S9 (yX6_isTurned, 75) (List.mem_of_getElem? (i := 3) rfl)
theorem wd_s9_4 : Cond.selects RX6 yX6_hungIn yX6_hungIn ∈ gw_tbl := wd_S9 (yX6_hungIn, 75) (List.mem_of_getElem? (i := 4) rfl)
theorem wd_s9_5 : Cond.selects RX6 yX6_menShown yX6_menShown ∈ gw_tbl := wd_S9 (yX6_menShown, 75) (List.mem_of_getElem? (i := 5) rfl)
theorem wd_s9_6 : Cond.selects RX6 yX6_goesTill yX6_goesTill ∈ gw_tbl := wd_S9 (yX6_goesTill, 75) (List.mem_of_getElem? (i := 6) rfl)
theorem wd_s9_7 : Cond.selects RX6 yX6_minuteGoes yX6_minuteGoes ∈ gw_tbl := wd_S9 (yX6_minuteGoes, 75) (List.mem_of_getElem? (i := 7) rfl)
theorem wd_s9_8 : Cond.selects RX6 yX6_goesTo yX6_goesTo ∈ gw_tbl := wd_S9 (yX6_goesTo, 75) (List.mem_of_getElem? (i := 8) rfl)
theorem wd_s9_9 : Cond.selects RX6 yX6_through yX6_through ∈ gw_tbl := wd_S9 (yX6_through, 75) (List.mem_of_getElem? (i := 9) rfl)
theorem wd_s9_10 : Cond.selects RX6 yX6_lotOf yX6_lotOf ∈ gw_tbl := wd_S9 (yX6_lotOf, 75) (List.mem_of_getElem? (i := 10) rfl)
theorem wd_s9_11 : Cond.selects RX6 yX6_breaksNow yX6_breaksNow ∈ gw_tbl := wd_S9 (yX6_breaksNow, 75) (List.mem_of_getElem? (i := 11) rfl)
theorem wd_s9_12 : Cond.selects RX6 yX6_keeps yX6_keeps ∈ gw_tbl := wd_S9 (yX6_keeps, 75) (List.mem_of_getElem? (i := 12) rfl)
theorem wd_s9_13 : Cond.selects RX6 yX6_nowOf yX6_nowOf ∈ gw_tbl := wd_S9 (yX6_nowOf, 75) (List.mem_of_getElem? (i := 13) rfl)
theorem wd_s9_14 : Cond.selects RX6 yX6_becomes yX6_becomes ∈ gw_tbl := wd_S9 (yX6_becomes, 75) (List.mem_of_getElem? (i := 14) rfl)
theorem wd_s9_15 : Cond.selects RX6 yX6_isRoom yX6_isRoom ∈ gw_tbl := wd_S9 (yX6_isRoom, 75) (List.mem_of_getElem? (i := 15) rfl)
theorem wd_s10_0 : Cond.selects RX6 yX6_seenIn yX6_seenIn ∈ gw_tbl := wd_S10 (yX6_seenIn, 75) (List.mem_of_getElem? (i := 0) rfl)
theorem wd_s10_1 : Cond.selects RX6 yX6_aloneOf yX6_aloneOf ∈ gw_tbl := wd_S10 (yX6_aloneOf, 75) (List.mem_of_getElem? (i := 1) rfl)
theorem wd_s10_2 : Cond.selects RX6 yX6_isAlone yX6_isAlone ∈ gw_tbl := wd_S10 (yX6_isAlone, 75) (List.mem_of_getElem? (i := 2) rfl)
theorem wd_s10_3 : Cond.selects RX6 yX6_isGlimpsed yX6_isGlimpsed ∈ gw_tbl := wd_S10 (yX6_isGlimpsed, 75) (List.mem_of_getElem? (i := 3) rfl)
theorem wd_s10_4 : Cond.selects RX6 yX6_fillsAll yX6_fillsAll ∈ gw_tbl := wd_S10 (yX6_fillsAll, 75) (List.mem_of_getElem? (i := 4) rfl)
theorem wd_s10_5 : Cond.selects RX6 yX6_showsRoom yX6_showsRoom ∈ gw_tbl := wd_S10 (yX6_showsRoom, 75) (List.mem_of_getElem? (i := 5) rfl)
theorem wd_s10_6 : Cond.selects RX6 yX6_isSeenIn yX6_isSeenIn ∈ gw_tbl := wd_S10 (yX6_isSeenIn, 75) (List.mem_of_getElem? (i := 6) rfl)
theorem wd_s10_7 : Cond.selects RX6 yX6_fillsFar yX6_fillsFar ∈ gw_tbl := wd_S10 (yX6_fillsFar, 75) (List.mem_of_getElem? (i := 7) rfl)
theorem wd_s10_8 : Cond.selects RX6 yX6_watched yX6_watched ∈ gw_tbl := wd_S10 (yX6_watched, 75) (List.mem_of_getElem? (i := 8) rfl)
theorem wd_s10_9 : Cond.selects RX6 yX6_seenFrom yX6_seenFrom ∈ gw_tbl := wd_S10 (yX6_seenFrom, 75) (List.mem_of_getElem? (i := 9) rfl)
theorem wd_s10_10 : Cond.selects RX6 yX6_isResting yX6_isResting ∈ gw_tbl := wd_S10 (yX6_isResting, 75) (List.mem_of_getElem? (i := 10) rfl)
theorem wd_s10_11 : Cond.selects RX6 yX6_hasIn yX6_hasIn ∈ gw_tbl := wd_S10 (yX6_hasIn, 75) (List.mem_of_getElem? (i := 11) rfl)
theorem wd_s10_12 : Cond.selects RX6 yX6_isSo yX6_isSo ∈ gw_tbl := wd_S10 (yX6_isSo, 75) (List.mem_of_getElem? (i := 12) rfl)
