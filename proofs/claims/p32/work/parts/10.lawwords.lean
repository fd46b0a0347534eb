theorem w_60 : Cond.methodLink "LinkHarbourLaw" 83 ⟨"LinkHarbour", "object", "()I"⟩ ∈ lw_g := mG 60 (by decide +kernel) rfl
theorem w_142 : Cond.methodLink "LinkHarbourLaw" 51 ⟨"LinkHarbour", "section", "(IIZ)I"⟩ ∈ lw_g := mG 142 (by decide +kernel) rfl
theorem w_195 : Cond.methodLink "LinkHarbourLaw" 87 ⟨"LinkHarbour", "common", "(IIII)I"⟩ ∈ lw_g := mG 195 (by decide +kernel) rfl
theorem w_231 : Cond.methodLink "LinkHarbourLaw" 91 ⟨"LinkHarbour", "ofObject", "(II)I"⟩ ∈ lw_g := mG 231 (by decide +kernel) rfl
theorem w_249 : Cond.methodLink "LinkHarbourLaw" 94 ⟨"LinkHarbour", "bounds", "(II)I"⟩ ∈ lw_g := mG 249 (by decide +kernel) rfl
theorem w_250 : Cond.instanceMethod ⟨"LinkHarbour", "bounds", "(II)I"⟩ ∈ lw_g := mG 250 (by decide +kernel) rfl
theorem w_251 : Cond.selects "LinkHarbour" ⟨"LinkHarbour", "bounds", "(II)I"⟩ ⟨"LinkHarbour", "bounds", "(II)I"⟩ ∈ lw_g := mG 251 (by decide +kernel) rfl
theorem w_257 : Cond.methodLink "LinkHarbourLaw" 35 ⟨"LinkHarbour", "link", "(IZ)I"⟩ ∈ lw_g := mG 257 (by decide +kernel) rfl
theorem w_258 : Cond.instanceMethod ⟨"LinkHarbour", "link", "(IZ)I"⟩ ∈ lw_g := mG 258 (by decide +kernel) rfl
theorem w_259 : Cond.selects "LinkHarbour" ⟨"LinkHarbour", "link", "(IZ)I"⟩ ⟨"LinkHarbour", "link", "(IZ)I"⟩ ∈ lw_g := mG 259 (by decide +kernel) rfl
theorem w_615 : Cond.methodLink "LinkHarbourLaw" 59 ⟨"LinkHarbour", "ofSection", "(II)I"⟩ ∈ lw_g := mG 615 (by decide +kernel) rfl
theorem w_645 : Cond.methodLink "LinkHarbourLaw" 97 ⟨"LinkHarbour", "publish", "(I)I"⟩ ∈ lw_g := mG 645 (by decide +kernel) rfl
theorem w_646 : Cond.instanceMethod ⟨"LinkHarbour", "publish", "(I)I"⟩ ∈ lw_g := mG 646 (by decide +kernel) rfl
theorem w_647 : Cond.selects "LinkHarbour" ⟨"LinkHarbour", "publish", "(I)I"⟩ ⟨"LinkHarbour", "publish", "(I)I"⟩ ∈ lw_g := mG 647 (by decide +kernel) rfl
theorem w_683 : Cond.methodLink "LinkHarbourLaw" 103 ⟨"LinkHarbour", "open", "(IZ)I"⟩ ∈ lw_g := mG 683 (by decide +kernel) rfl
theorem w_684 : Cond.instanceMethod ⟨"LinkHarbour", "open", "(IZ)I"⟩ ∈ lw_g := mG 684 (by decide +kernel) rfl
theorem w_685 : Cond.selects "LinkHarbour" ⟨"LinkHarbour", "open", "(IZ)I"⟩ ⟨"LinkHarbour", "open", "(IZ)I"⟩ ∈ lw_g := mG 685 (by decide +kernel) rfl
theorem w_740 : Cond.methodLink "LinkHarbourLaw" 106 ⟨"LinkHarbour", "close", "(I)I"⟩ ∈ lw_g := mG 740 (by decide +kernel) rfl
theorem w_741 : Cond.instanceMethod ⟨"LinkHarbour", "close", "(I)I"⟩ ∈ lw_g := mG 741 (by decide +kernel) rfl
theorem w_742 : Cond.selects "LinkHarbour" ⟨"LinkHarbour", "close", "(I)I"⟩ ⟨"LinkHarbour", "close", "(I)I"⟩ ∈ lw_g := mG 742 (by decide +kernel) rfl
theorem w_769 : Cond.methodLink "LinkHarbourLaw" 100 ⟨"LinkHarbour", "ofLibrary", "(II)I"⟩ ∈ lw_g := mG 769 (by decide +kernel) rfl
theorem w_830 : Cond.methodLink "LinkHarbourLaw" 109 ⟨"LinkHarbour", "goes", "(I)I"⟩ ∈ lw_g := mG 830 (by decide +kernel) rfl
theorem w_835 : Cond.methodLink "LinkHarbourLaw" 41 ⟨"LinkHarbour", "digest", "()J"⟩ ∈ lw_g := mG 835 (by decide +kernel) rfl
theorem w_836 : Cond.instanceMethod ⟨"LinkHarbour", "digest", "()J"⟩ ∈ lw_g := mG 836 (by decide +kernel) rfl
theorem w_837 : Cond.selects "LinkHarbour" ⟨"LinkHarbour", "digest", "()J"⟩ ⟨"LinkHarbour", "digest", "()J"⟩ ∈ lw_g := mG 837 (by decide +kernel) rfl
theorem w_949 : Cond.classLink "LinkHarbourLaw" 9 "LinkHarbourLaw$Yard" ∈ lw_g := mG 949 (by decide +kernel) rfl
theorem w_950 : Cond.instantiable "LinkHarbourLaw$Yard" 24 ∈ lw_g := mG 950 (by decide +kernel) rfl
theorem w_951 : Cond.methodLink "LinkHarbourLaw" 11 ⟨"LinkHarbourLaw$Yard", "<init>", "([II)V"⟩ ∈ lw_g := mG 951 (by decide +kernel) rfl
theorem w_952 : Cond.instanceMethod ⟨"LinkHarbourLaw$Yard", "<init>", "([II)V"⟩ ∈ lw_g := mG 952 (by decide +kernel) rfl
theorem w_1341 : Cond.fieldLink "LinkHarbourLaw" 14 "LinkHarbourLaw$Yard" "m" "LLinkHarbour;" ∈ lw_g := mG 1341 (by decide +kernel) rfl
theorem w_1346 : Cond.fieldLink "LinkHarbourLaw" 55 "LinkHarbourLaw$Yard" "sections" "[[I" ∈ lw_g := mG 1346 (by decide +kernel) rfl
theorem w_1348 : Cond.fieldLink "LinkHarbourLaw" 67 "LinkHarbourLaw$Yard" "pieces" "[[[I" ∈ lw_g := mG 1348 (by decide +kernel) rfl
theorem w_1413 : Cond.methodLink "LinkHarbourLaw" 31 ⟨"LinkHarbourLaw$Yard", "draw", "(I)I"⟩ ∈ lw_g := mG 1413 (by decide +kernel) rfl
theorem w_1425 : Cond.methodLink "LinkHarbourLaw" 63 ⟨"LinkHarbourLaw$Yard", "with", "([[I[I)[[I"⟩ ∈ lw_g := mG 1425 (by decide +kernel) rfl
theorem w_1431 : Cond.methodLink "LinkHarbourLaw" 73 ⟨"LinkHarbourLaw$Yard", "plus", "([[[I[[I)[[[I"⟩ ∈ lw_g := mG 1431 (by decide +kernel) rfl
theorem w_1434 : Cond.methodLink "LinkHarbourLaw" 22 ⟨"LinkHarbourLaw$Yard", "piece", "()Z"⟩ ∈ lw_g := mG 1434 (by decide +kernel) rfl
theorem w_1473 : Cond.methodLink "LinkHarbourLaw" 25 ⟨"LinkHarbourLaw$Yard", "define", "()Z"⟩ ∈ lw_g := mG 1473 (by decide +kernel) rfl
theorem w_1491 : Cond.methodLink "LinkHarbourLaw" 28 ⟨"LinkHarbourLaw$Yard", "row", "()Z"⟩ ∈ lw_g := mG 1491 (by decide +kernel) rfl
theorem w_1526 : Cond.methodLink "LinkHarbourLaw" 18 ⟨"LinkHarbourLaw$Yard", "found", "()Z"⟩ ∈ lw_g := mG 1526 (by decide +kernel) rfl
theorem w_1527 : Cond.instanceMethod ⟨"LinkHarbourLaw$Yard", "found", "()Z"⟩ ∈ lw_g := mG 1527 (by decide +kernel) rfl
theorem w_1528 : Cond.selects "LinkHarbourLaw$Yard" ⟨"LinkHarbourLaw$Yard", "found", "()Z"⟩ ⟨"LinkHarbourLaw$Yard", "found", "()Z"⟩ ∈ lw_g := mG 1528 (by decide +kernel) rfl
theorem w_1540 : Cond.methodLink "LinkHarbourLaw" 77 ⟨"LinkHarbourLaw", "areWords", "(LLinkHarbour;[I)Z"⟩ ∈ lw_g := mG 1540 (by decide +kernel) rfl
theorem w_1541 : Cond.static ⟨"LinkHarbourLaw", "areWords", "(LLinkHarbour;[I)Z"⟩ ∈ lw_g := mG 1541 (by decide +kernel) rfl
theorem w_1543 : Cond.classLink "LinkHarbourLaw" 71 "[I" ∈ lw_g := mG 1543 (by decide +kernel) rfl
theorem cz_169 : (mt 169).2.2.2.2 = [] := rfl
theorem cc_169 : Cond.code (mt 169).1 (mt 169).2.1 (mt 169).2.2.1 (mt 169).2.2.2.1 ∈ lw_g := mG 252 (by decide +kernel) rfl
theorem ci_169 : Cond.initialized (mt 169).1.cls ∈ lw_g := w_39
theorem cm_169 : Cond.instanceMethod (mt 169).1 ∈ lw_g := w_250
theorem cs_169 : Cond.selects (mt 169).1.cls (mt 169).1 (mt 169).1 ∈ lw_g := w_251
theorem cd_169 : (mt 169).1.cls ≠ "java/lang/invoke/MethodHandle" ∧ (mt 169).1.cls ≠ "java/lang/invoke/VarHandle" ∧ (parseMethodDescriptor (mt 169).1.desc).map (fun d => d.parameters.length) = some 2 := ⟨by decide +kernel, by decide +kernel, by decide +kernel⟩
theorem cl_169 : (mt 169).2.2.1 ≤ 17 := by decide
theorem cz_170 : (mt 170).2.2.2.2 = [] := rfl
theorem cc_170 : Cond.code (mt 170).1 (mt 170).2.1 (mt 170).2.2.1 (mt 170).2.2.2.1 ∈ lw_g := mG 260 (by decide +kernel) rfl
theorem ci_170 : Cond.initialized (mt 170).1.cls ∈ lw_g := w_39
theorem cm_170 : Cond.instanceMethod (mt 170).1 ∈ lw_g := w_258
theorem cs_170 : Cond.selects (mt 170).1.cls (mt 170).1 (mt 170).1 ∈ lw_g := w_259
theorem cd_170 : (mt 170).1.cls ≠ "java/lang/invoke/MethodHandle" ∧ (mt 170).1.cls ≠ "java/lang/invoke/VarHandle" ∧ (parseMethodDescriptor (mt 170).1.desc).map (fun d => d.parameters.length) = some 2 := ⟨by decide +kernel, by decide +kernel, by decide +kernel⟩
theorem cl_170 : (mt 170).2.2.1 ≤ 17 := by decide
theorem cz_175 : (mt 175).2.2.2.2 = [] := rfl
theorem cc_175 : Cond.code (mt 175).1 (mt 175).2.1 (mt 175).2.2.1 (mt 175).2.2.2.1 ∈ lw_g := mG 648 (by decide +kernel) rfl
theorem ci_175 : Cond.initialized (mt 175).1.cls ∈ lw_g := w_39
theorem cm_175 : Cond.instanceMethod (mt 175).1 ∈ lw_g := w_646
theorem cs_175 : Cond.selects (mt 175).1.cls (mt 175).1 (mt 175).1 ∈ lw_g := w_647
theorem cd_175 : (mt 175).1.cls ≠ "java/lang/invoke/MethodHandle" ∧ (mt 175).1.cls ≠ "java/lang/invoke/VarHandle" ∧ (parseMethodDescriptor (mt 175).1.desc).map (fun d => d.parameters.length) = some 1 := ⟨by decide +kernel, by decide +kernel, by decide +kernel⟩
theorem cl_175 : (mt 175).2.2.1 ≤ 17 := by decide
theorem cz_176 : (mt 176).2.2.2.2 = [] := rfl
theorem cc_176 : Cond.code (mt 176).1 (mt 176).2.1 (mt 176).2.2.1 (mt 176).2.2.2.1 ∈ lw_g := mG 686 (by decide +kernel) rfl
theorem ci_176 : Cond.initialized (mt 176).1.cls ∈ lw_g := w_39
theorem cm_176 : Cond.instanceMethod (mt 176).1 ∈ lw_g := w_684
theorem cs_176 : Cond.selects (mt 176).1.cls (mt 176).1 (mt 176).1 ∈ lw_g := w_685
theorem cd_176 : (mt 176).1.cls ≠ "java/lang/invoke/MethodHandle" ∧ (mt 176).1.cls ≠ "java/lang/invoke/VarHandle" ∧ (parseMethodDescriptor (mt 176).1.desc).map (fun d => d.parameters.length) = some 2 := ⟨by decide +kernel, by decide +kernel, by decide +kernel⟩
theorem cl_176 : (mt 176).2.2.1 ≤ 17 := by decide
theorem cz_177 : (mt 177).2.2.2.2 = [] := rfl
theorem cc_177 : Cond.code (mt 177).1 (mt 177).2.1 (mt 177).2.2.1 (mt 177).2.2.2.1 ∈ lw_g := mG 743 (by decide +kernel) rfl
theorem ci_177 : Cond.initialized (mt 177).1.cls ∈ lw_g := w_39
theorem cm_177 : Cond.instanceMethod (mt 177).1 ∈ lw_g := w_741
theorem cs_177 : Cond.selects (mt 177).1.cls (mt 177).1 (mt 177).1 ∈ lw_g := w_742
theorem cd_177 : (mt 177).1.cls ≠ "java/lang/invoke/MethodHandle" ∧ (mt 177).1.cls ≠ "java/lang/invoke/VarHandle" ∧ (parseMethodDescriptor (mt 177).1.desc).map (fun d => d.parameters.length) = some 1 := ⟨by decide +kernel, by decide +kernel, by decide +kernel⟩
theorem cl_177 : (mt 177).2.2.1 ≤ 17 := by decide
theorem cz_185 : (mt 185).2.2.2.2 = [] := rfl
theorem cc_185 : Cond.code (mt 185).1 (mt 185).2.1 (mt 185).2.2.1 (mt 185).2.2.2.1 ∈ lw_g := mG 838 (by decide +kernel) rfl
theorem ci_185 : Cond.initialized (mt 185).1.cls ∈ lw_g := w_39
theorem cm_185 : Cond.instanceMethod (mt 185).1 ∈ lw_g := w_836
theorem cs_185 : Cond.selects (mt 185).1.cls (mt 185).1 (mt 185).1 ∈ lw_g := w_837
theorem cd_185 : (mt 185).1.cls ≠ "java/lang/invoke/MethodHandle" ∧ (mt 185).1.cls ≠ "java/lang/invoke/VarHandle" ∧ (parseMethodDescriptor (mt 185).1.desc).map (fun d => d.parameters.length) = some 0 := ⟨by decide +kernel, by decide +kernel, by decide +kernel⟩
theorem cl_185 : (mt 185).2.2.1 ≤ 17 := by decide
theorem cz_199 : (mt 199).2.2.2.2 = [] := rfl
theorem cc_199 : Cond.code (mt 199).1 (mt 199).2.1 (mt 199).2.2.1 (mt 199).2.2.2.1 ∈ lw_g := mG 953 (by decide +kernel) rfl
theorem ci_199 : Cond.initialized (mt 199).1.cls ∈ lw_g := w_38
theorem cm_199 : Cond.instanceMethod (mt 199).1 ∈ lw_g := w_952
theorem cd_199 : (mt 199).1.cls ≠ "java/lang/invoke/MethodHandle" ∧ (mt 199).1.cls ≠ "java/lang/invoke/VarHandle" ∧ (parseMethodDescriptor (mt 199).1.desc).map (fun d => d.parameters.length) = some 2 := ⟨by decide +kernel, by decide +kernel, by decide +kernel⟩
theorem cl_199 : (mt 199).2.2.1 ≤ 17 := by decide
theorem cz_208 : (mt 208).2.2.2.2 = [] := rfl
theorem cc_208 : Cond.code (mt 208).1 (mt 208).2.1 (mt 208).2.2.1 (mt 208).2.2.2.1 ∈ lw_g := mG 1529 (by decide +kernel) rfl
theorem ci_208 : Cond.initialized (mt 208).1.cls ∈ lw_g := w_38
theorem cm_208 : Cond.instanceMethod (mt 208).1 ∈ lw_g := w_1527
theorem cs_208 : Cond.selects (mt 208).1.cls (mt 208).1 (mt 208).1 ∈ lw_g := w_1528
theorem cd_208 : (mt 208).1.cls ≠ "java/lang/invoke/MethodHandle" ∧ (mt 208).1.cls ≠ "java/lang/invoke/VarHandle" ∧ (parseMethodDescriptor (mt 208).1.desc).map (fun d => d.parameters.length) = some 0 := ⟨by decide +kernel, by decide +kernel, by decide +kernel⟩
theorem cl_208 : (mt 208).2.2.1 ≤ 17 := by decide
theorem cz_214 : (mt 214).2.2.2.2 = [] := rfl
theorem cc_214 : Cond.code (mt 214).1 (mt 214).2.1 (mt 214).2.2.1 (mt 214).2.2.2.1 ∈ lw_g := mG 1542 (by decide +kernel) rfl
theorem ci_214 : Cond.initialized (mt 214).1.cls ∈ lw_g := w_37
theorem cm_214 : Cond.static (mt 214).1 ∈ lw_g := w_1541
theorem cd_214 : (mt 214).1.cls ≠ "java/lang/invoke/MethodHandle" ∧ (mt 214).1.cls ≠ "java/lang/invoke/VarHandle" ∧ (parseMethodDescriptor (mt 214).1.desc).map (fun d => d.parameters.length) = some 2 := ⟨by decide +kernel, by decide +kernel, by decide +kernel⟩
theorem cl_214 : (mt 214).2.2.1 ≤ 17 := by decide
