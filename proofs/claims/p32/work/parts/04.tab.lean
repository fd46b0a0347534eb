def ev_tr {α : Type} (k : Nat) (a b : Nat → α) : Nat → α := fun y => bif Nat.ble k y then b y else a y
def mt : Nat → MethodName × ByteArray × Nat × Option FieldType × List (Nat × Nat × Nat × Nat) := (ev_tr 107 (ev_tr 53 (ev_tr 26 (ev_tr 13 (ev_tr 6 (ev_tr 3 (ev_tr 1 (fun _ => (yX0_init, cX0_init, 1, none, [])) (ev_tr 2 (fun _ => (yX0_count, cX0_count, 1, (some .int), [])) (fun _ => (yX0_forget, cX0_forget, 1, none, [])))) (ev_tr 4 (fun _ => (yX0_add, cX0_add, 6, none, [])) (ev_tr 5 (fun _ => (yX0_part, cX0_part, 3, (some .int), [])) (fun _ => (yX1_init, cX1_init, 1, none, []))))) (ev_tr 9 (ev_tr 7 (fun _ => (yX1_clearUpTo, cX1_clearUpTo, 3, none, [])) (ev_tr 8 (fun _ => (yX1_put, cX1_put, 3, none, [])) (fun _ => (yX1_read, cX1_read, 2, (some .int), [])))) (ev_tr 11 (ev_tr 10 (fun _ => (yX2_init, cX2_init, 1, none, [])) (fun _ => (yX2_count, cX2_count, 1, (some .int), []))) (ev_tr 12 (fun _ => (yX2_isFull, cX2_isFull, 1, (some .boolean), [])) (fun _ => (yX2_add, cX2_add, 3, (some .int), [])))))) (ev_tr 19 (ev_tr 16 (ev_tr 14 (fun _ => (yX2_removeAll, cX2_removeAll, 2, (some .int), [])) (ev_tr 15 (fun _ => (yX2_hasAny, cX2_hasAny, 3, (some .boolean), [])) (fun _ => (yX2_itemOf, cX2_itemOf, 3, (some .int), [])))) (ev_tr 17 (fun _ => (yX2_set, cX2_set, 2, (some .int), [])) (ev_tr 18 (fun _ => (yX2_isPlain, cX2_isPlain, 2, (some .boolean), [])) (fun _ => (yX2_joinsAhead, cX2_joinsAhead, 2, (some .boolean), []))))) (ev_tr 22 (ev_tr 20 (fun _ => (yX2_groupEnd, cX2_groupEnd, 3, (some .int), [])) (ev_tr 21 (fun _ => (yX3_init, cX3_init, 6, none, [])) (fun _ => (yX3_size, cX3_size, 1, (some .int), [])))) (ev_tr 24 (ev_tr 23 (fun _ => (yX3_laid, cX3_laid, 1, (some .int), [])) (fun _ => (yX3_sectionAt, cX3_sectionAt, 2, (some .int), []))) (ev_tr 25 (fun _ => (yX3_addressOf, cX3_addressOf, 2, (some .int), [])) (fun _ => (yX3_wordsOf, cX3_wordsOf, 2, (some .int), []))))))) (ev_tr 39 (ev_tr 32 (ev_tr 29 (ev_tr 27 (fun _ => (yX3_longsOf, cX3_longsOf, 2, (some .int), [])) (ev_tr 28 (fun _ => (yX3_countLongs, cX3_countLongs, 3, (some .int), [])) (fun _ => (yX3_addressOfName, cX3_addressOfName, 2, (some .int), [])))) (ev_tr 30 (fun _ => (yX3_standsFor, cX3_standsFor, 2, (some .int), [])) (ev_tr 31 (fun _ => (yX3_width, cX3_width, 3, (some .int), [])) (fun _ => (yX3_layOut, cX3_layOut, 3, none, []))))) (ev_tr 35 (ev_tr 33 (fun _ => (yX3_orderSections, cX3_orderSections, 4, none, [])) (ev_tr 34 (fun _ => (yX3_append, cX3_append, 3, none, [])) (fun _ => (yX3_placeSections, cX3_placeSections, 3, none, [])))) (ev_tr 37 (ev_tr 36 (fun _ => (yX3_placeCommons, cX3_placeCommons, 2, none, [])) (fun _ => (yX3_addressNames, cX3_addressNames, 3, none, []))) (ev_tr 38 (fun _ => (yX3_wordsAhead, cX3_wordsAhead, 5, (some .int), [])) (fun _ => (yX3_lengthenAll, cX3_lengthenAll, 4, (some .boolean), [])))))) (ev_tr 46 (ev_tr 42 (ev_tr 40 (fun _ => (yX3_lengthenIn, cX3_lengthenIn, 8, (some .boolean), [])) (ev_tr 41 (fun _ => (yX4_init, cX4_init, 2, none, [])) (fun _ => (yX4_count, cX4_count, 1, (some .int), [])))) (ev_tr 44 (ev_tr 43 (fun _ => (yX4_isFull, cX4_isFull, 1, (some .boolean), [])) (fun _ => (yX4_has, cX4_has, 2, (some .boolean), []))) (ev_tr 45 (fun _ => (yX4_size, cX4_size, 2, (some .int), [])) (fun _ => (yX4_needs, cX4_needs, 2, (some .int), []))))) (ev_tr 49 (ev_tr 47 (fun _ => (yX4_exports, cX4_exports, 2, (some .int), [])) (ev_tr 48 (fun _ => (yX4_imports, cX4_imports, 2, (some .int), [])) (fun _ => (yX4_opened, cX4_opened, 2, (some .int), [])))) (ev_tr 51 (ev_tr 50 (fun _ => (yX4_base, cX4_base, 2, (some .int), [])) (fun _ => (yX4_isLoaded, cX4_isLoaded, 2, (some .boolean), []))) (ev_tr 52 (fun _ => (yX4_isExport, cX4_isExport, 3, (some .boolean), [])) (fun _ => (yX4_isImport, cX4_isImport, 3, (some .boolean), [])))))))) (ev_tr 80 (ev_tr 66 (ev_tr 59 (ev_tr 56 (ev_tr 54 (fun _ => (yX4_exportAddress, cX4_exportAddress, 3, (some .int), [])) (ev_tr 55 (fun _ => (yX4_boundTo, cX4_boundTo, 3, (some .int), [])) (fun _ => (yX4_boundAddress, cX4_boundAddress, 4, (some .int), [])))) (ev_tr 57 (fun _ => (yX4_placeAmongGlobal, cX4_placeAmongGlobal, 2, (some .int), [])) (ev_tr 58 (fun _ => (yX4_placeAmongInitialised, cX4_placeAmongInitialised, 2, (some .int), [])) (fun _ => (yX4_placeIn, cX4_placeIn, 4, (some .int), []))))) (ev_tr 62 (ev_tr 60 (fun _ => (yX4_countLoaded, cX4_countLoaded, 1, (some .int), [])) (ev_tr 61 (fun _ => (yX4_countGlobal, cX4_countGlobal, 1, (some .int), [])) (fun _ => (yX4_countBindings, cX4_countBindings, 3, (some .int), [])))) (ev_tr 64 (ev_tr 63 (fun _ => (yX4_add, cX4_add, 6, (some .int), [])) (fun _ => (yX4_neededNow, cX4_neededNow, 2, (some .int), []))) (ev_tr 65 (fun _ => (yX4_loaded, cX4_loaded, 3, (some .int), [])) (fun _ => (yX4_fillRow, cX4_fillRow, 6, (some .int), [])))))) (ev_tr 73 (ev_tr 69 (ev_tr 67 (fun _ => (yX4_openOne, cX4_openOne, 6, (some .int), [])) (ev_tr 68 (fun _ => (yX4_load, cX4_load, 4, none, [])) (fun _ => (yX4_makeGlobal, cX4_makeGlobal, 2, none, [])))) (ev_tr 71 (ev_tr 70 (fun _ => (yX4_initialise, cX4_initialise, 8, none, [])) (fun _ => (yX4_lowestOf, cX4_lowestOf, 2, (some .int), []))) (ev_tr 72 (fun _ => (yX4_closeOne, cX4_closeOne, 3, (some .int), [])) (fun _ => (yX4_leavingBy, cX4_leavingBy, 5, (some .int), []))))) (ev_tr 76 (ev_tr 74 (fun _ => (yX4_finish, cX4_finish, 5, none, [])) (ev_tr 75 (fun _ => (yX4_without, cX4_without, 5, (some .int), [])) (fun _ => (yX4_firstExporter, cX4_firstExporter, 5, (some .int), [])))) (ev_tr 78 (ev_tr 77 (fun _ => (yX5_init, cX5_init, 4, none, [])) (fun _ => (yX5_isDone, cX5_isDone, 1, (some .boolean), []))) (ev_tr 79 (fun _ => (yX5_isShared, cX5_isShared, 1, (some .boolean), [])) (fun _ => (yX5_entry, cX5_entry, 1, (some .int), []))))))) (ev_tr 93 (ev_tr 86 (ev_tr 83 (ev_tr 81 (fun _ => (yX5_run, cX5_run, 6, none, [])) (ev_tr 82 (fun _ => (yX5_tellFaults, cX5_tellFaults, 5, none, [])) (fun _ => (yX5_tellFaultsOf, cX5_tellFaultsOf, 6, none, [])))) (ev_tr 84 (fun _ => (yX5_writeTo, cX5_writeTo, 6, none, [])) (ev_tr 85 (fun _ => (yX5_writePiece, cX5_writePiece, 6, none, [])) (fun _ => (yX6_init, cX6_init, 1, none, []))))) (ev_tr 89 (ev_tr 87 (fun _ => (yX6_count, cX6_count, 1, (some .int), [])) (ev_tr 88 (fun _ => (yX6_isFull, cX6_isFull, 1, (some .boolean), [])) (fun _ => (yX6_has, cX6_has, 2, (some .boolean), [])))) (ev_tr 91 (ev_tr 90 (fun _ => (yX6_hasAll, cX6_hasAll, 2, (some .boolean), [])) (fun _ => (yX6_add, cX6_add, 2, (some .int), []))) (ev_tr 92 (fun _ => (yX6_defined, cX6_defined, 2, (some .int), [])) (fun _ => (yX6_offered, cX6_offered, 2, (some .int), [])))))) (ev_tr 100 (ev_tr 96 (ev_tr 94 (fun _ => (yX6_needed, cX6_needed, 2, (some .int), [])) (ev_tr 95 (fun _ => (yX6_need, cX6_need, 3, none, [])) (fun _ => (yX6_addDefinition, cX6_addDefinition, 7, none, [])))) (ev_tr 98 (ev_tr 97 (fun _ => (yX6_hide, cX6_hide, 3, none, [])) (fun _ => (yX6_addCommon, cX6_addCommon, 5, none, []))) (ev_tr 99 (fun _ => (yX6_kind, cX6_kind, 3, (some .int), [])) (fun _ => (yX6_sectionOf, cX6_sectionOf, 3, (some .int), []))))) (ev_tr 103 (ev_tr 101 (fun _ => (yX6_placeOf, cX6_placeOf, 3, (some .int), [])) (ev_tr 102 (fun _ => (yX6_size, cX6_size, 3, (some .int), [])) (fun _ => (yX6_align, cX6_align, 3, (some .int), [])))) (ev_tr 105 (ev_tr 104 (fun _ => (yX6_isHidden, cX6_isHidden, 3, (some .boolean), [])) (fun _ => (yX7_init, cX7_init, 4, none, []))) (ev_tr 106 (fun _ => (yX7_hasSection, cX7_hasSection, 2, (some .boolean), [])) (fun _ => (yX7_hasCommon, cX7_hasCommon, 2, (some .boolean), []))))))))) (ev_tr 161 (ev_tr 134 (ev_tr 120 (ev_tr 113 (ev_tr 110 (ev_tr 108 (fun _ => (yX7_countSections, cX7_countSections, 1, (some .int), [])) (ev_tr 109 (fun _ => (yX7_imports, cX7_imports, 1, (some .int), [])) (fun _ => (yX7_isImport, cX7_isImport, 2, (some .boolean), [])))) (ev_tr 111 (fun _ => (yX7_references, cX7_references, 2, (some .int), [])) (ev_tr 112 (fun _ => (yX7_reachAll, cX7_reachAll, 4, none, [])) (fun _ => (yX7_forget, cX7_forget, 2, none, []))))) (ev_tr 116 (ev_tr 114 (fun _ => (yX7_follow, cX7_follow, 5, none, [])) (ev_tr 115 (fun _ => (yX7_reachName, cX7_reachName, 3, none, [])) (fun _ => (yX7_reachSection, cX7_reachSection, 2, none, [])))) (ev_tr 118 (ev_tr 117 (fun _ => (yX8_init, cX8_init, 1, none, [])) (fun _ => (yX8_count, cX8_count, 1, (some .int), []))) (ev_tr 119 (fun _ => (yX8_isFull, cX8_isFull, 1, (some .boolean), [])) (fun _ => (yX8_has, cX8_has, 2, (some .boolean), [])))))) (ev_tr 127 (ev_tr 123 (ev_tr 121 (fun _ => (yX8_add, cX8_add, 4, (some .int), [])) (ev_tr 122 (fun _ => (yX8_isFilled, cX8_isFilled, 2, (some .boolean), [])) (fun _ => (yX8_addPiece, cX8_addPiece, 8, (some .int), [])))) (ev_tr 125 (ev_tr 124 (fun _ => (yX8_objectOf, cX8_objectOf, 2, (some .int), [])) (fun _ => (yX8_align, cX8_align, 2, (some .int), []))) (ev_tr 126 (fun _ => (yX8_isKept, cX8_isKept, 2, (some .boolean), [])) (fun _ => (yX8_pieces, cX8_pieces, 2, (some .int), []))))) (ev_tr 130 (ev_tr 128 (fun _ => (yX8_countOf, cX8_countOf, 4, (some .int), [])) (ev_tr 129 (fun _ => (yX8_hasPiece, cX8_hasPiece, 3, (some .boolean), [])) (fun _ => (yX8_kind, cX8_kind, 3, (some .int), [])))) (ev_tr 132 (ev_tr 131 (fun _ => (yX8_isReference, cX8_isReference, 3, (some .boolean), [])) (fun _ => (yX8_words, cX8_words, 4, (some .int), []))) (ev_tr 133 (fun _ => (yX8_name, cX8_name, 3, (some .int), [])) (fun _ => (yX8_added, cX8_added, 3, (some .int), []))))))) (ev_tr 147 (ev_tr 140 (ev_tr 137 (ev_tr 135 (fun _ => (yX8_isWeak, cX8_isWeak, 3, (some .boolean), [])) (ev_tr 136 (fun _ => (yX9_init, cX9_init, 3, none, [])) (fun _ => (yX9_forget, cX9_forget, 2, none, [])))) (ev_tr 138 (fun _ => (yX9_settle, cX9_settle, 3, none, [])) (ev_tr 139 (fun _ => (yX9_weigh, cX9_weigh, 4, none, [])) (fun _ => (yX9_adopt, cX9_adopt, 4, none, []))))) (ev_tr 143 (ev_tr 141 (fun _ => (yX9_kind, cX9_kind, 2, (some .int), [])) (ev_tr 142 (fun _ => (yX9_objectOf, cX9_objectOf, 2, (some .int), [])) (fun _ => (yX9_sectionOf, cX9_sectionOf, 2, (some .int), [])))) (ev_tr 145 (ev_tr 144 (fun _ => (yX9_placeOf, cX9_placeOf, 2, (some .int), [])) (fun _ => (yX9_isHidden, cX9_isHidden, 2, (some .boolean), []))) (ev_tr 146 (fun _ => (yX9_size, cX9_size, 2, (some .int), [])) (fun _ => (yX9_align, cX9_align, 2, (some .int), [])))))) (ev_tr 154 (ev_tr 150 (ev_tr 148 (fun _ => (yX9_isTwiceStrong, cX9_isTwiceStrong, 2, (some .boolean), [])) (ev_tr 149 (fun _ => (yX10_init, cX10_init, 3, none, [])) (fun _ => (yX10_count, cX10_count, 1, (some .int), [])))) (ev_tr 152 (ev_tr 151 (fun _ => (yX10_objectAt, cX10_objectAt, 2, (some .int), [])) (fun _ => (yX10_placeOf, cX10_placeOf, 3, (some .int), []))) (ev_tr 153 (fun _ => (yX10_isTaken, cX10_isTaken, 2, (some .boolean), [])) (fun _ => (yX10_take, cX10_take, 5, none, []))))) (ev_tr 157 (ev_tr 155 (fun _ => (yX10_takeAll, cX10_takeAll, 3, none, [])) (ev_tr 156 (fun _ => (yX10_takeGroup, cX10_takeGroup, 7, none, [])) (fun _ => (yX10_takeWanted, cX10_takeWanted, 3, none, [])))) (ev_tr 159 (ev_tr 158 (fun _ => (yX10_add, cX10_add, 2, none, [])) (fun _ => (yX11_init, cX11_init, 1, none, []))) (ev_tr 160 (fun _ => (yX11_object, cX11_object, 1, (some .int), [])) (fun _ => (yX11_section, cX11_section, 4, (some .int), [])))))))) (ev_tr 188 (ev_tr 174 (ev_tr 167 (ev_tr 164 (ev_tr 162 (fun _ => (yX11_fill, cX11_fill, 3, (some .int), [])) (ev_tr 163 (fun _ => (yX11_word, cX11_word, 5, (some .int), [])) (fun _ => (yX11_jump, cX11_jump, 4, (some .int), [])))) (ev_tr 165 (fun _ => (yX11_define, cX11_define, 7, (some .int), [])) (ev_tr 166 (fun _ => (yX11_common, cX11_common, 5, (some .int), [])) (fun _ => (yX11_item, cX11_item, 3, (some .int), []))))) (ev_tr 170 (ev_tr 168 (fun _ => (yX11_clear, cX11_clear, 1, (some .int), [])) (ev_tr 169 (fun _ => (yX11_ofObject, cX11_ofObject, 3, (some .int), [])) (fun _ => (yX11_bounds, cX11_bounds, 4, (some .int), [])))) (ev_tr 172 (ev_tr 171 (fun _ => (yX11_link, cX11_link, 3, (some .int), [])) (fun _ => (yX11_ofSection, cX11_ofSection, 3, (some .int), []))) (ev_tr 173 (fun _ => (yX11_ofName, cX11_ofName, 3, (some .int), [])) (fun _ => (yX11_fault, cX11_fault, 3, (some .int), [])))))) (ev_tr 181 (ev_tr 177 (ev_tr 175 (fun _ => (yX11_wordAt, cX11_wordAt, 2, (some .int), [])) (ev_tr 176 (fun _ => (yX11_publish, cX11_publish, 2, (some .int), [])) (fun _ => (yX11_open, cX11_open, 3, (some .int), [])))) (ev_tr 179 (ev_tr 178 (fun _ => (yX11_close, cX11_close, 2, (some .int), [])) (fun _ => (yX11_ofBinding, cX11_ofBinding, 4, (some .int), []))) (ev_tr 180 (fun _ => (yX11_ofLibrary, cX11_ofLibrary, 3, (some .int), [])) (fun _ => (yX11_many, cX11_many, 2, (some .int), []))))) (ev_tr 184 (ev_tr 182 (fun _ => (yX11_sizeWith, cX11_sizeWith, 2, (some .int), [])) (ev_tr 183 (fun _ => (yX11_faultsWithout, cX11_faultsWithout, 2, (some .int), [])) (fun _ => (yX11_goes, cX11_goes, 2, (some .int), [])))) (ev_tr 186 (ev_tr 185 (fun _ => (yX11_wouldBind, cX11_wouldBind, 3, (some .int), [])) (fun _ => (yX11_digest, cX11_digest, 4, (some .long), []))) (ev_tr 187 (fun _ => (yX11_mixObjects, cX11_mixObjects, 7, (some .long), [])) (fun _ => (yX11_mixSections, cX11_mixSections, 7, (some .long), []))))))) (ev_tr 201 (ev_tr 194 (ev_tr 191 (ev_tr 189 (fun _ => (yX11_mixNames, cX11_mixNames, 7, (some .long), [])) (ev_tr 190 (fun _ => (yX11_mixFaults, cX11_mixFaults, 7, (some .long), [])) (fun _ => (yX11_mixLibrary, cX11_mixLibrary, 8, (some .long), [])))) (ev_tr 192 (fun _ => (yX11_mix, cX11_mix, 4, (some .long), [])) (ev_tr 193 (fun _ => (yX11_isIn, cX11_isIn, 2, (some .boolean), [])) (fun _ => (yX11_isName, cX11_isName, 1, (some .boolean), []))))) (ev_tr 197 (ev_tr 195 (fun _ => (yX11_isAlign, cX11_isAlign, 1, (some .boolean), [])) (ev_tr 196 (fun _ => (yX11_isReach, cX11_isReach, 1, (some .boolean), [])) (fun _ => (yX11_hasBit, cX11_hasBit, 2, (some .boolean), [])))) (ev_tr 199 (ev_tr 198 (fun _ => (yX11_roundUp, cX11_roundUp, 2, (some .int), [])) (fun _ => (yX11_addReference, cX11_addReference, 6, (some .int), []))) (ev_tr 200 (fun _ => (yX12_init, cX12_init, 3, none, [])) (fun _ => (yX12_draw, cX12_draw, 3, (some .int), [])))))) (ev_tr 208 (ev_tr 204 (ev_tr 202 (fun _ => (yX12_with, cX12_with, 3, (some (.array (.array .int))), [])) (ev_tr 203 (fun _ => (yX12_plus, cX12_plus, 3, (some (.array (.array (.array .int)))), [])) (fun _ => (yX12_section, cX12_section, 4, (some .boolean), [])))) (ev_tr 206 (ev_tr 205 (fun _ => (yX12_piece, cX12_piece, 8, (some .boolean), [])) (fun _ => (yX12_definitionOf, cX12_definitionOf, 4, (some .int), []))) (ev_tr 207 (fun _ => (yX12_define, cX12_define, 10, (some .boolean), [])) (fun _ => (yX12_row, cX12_row, 4, (some .boolean), []))))) (ev_tr 211 (ev_tr 209 (fun _ => (yX12_found, cX12_found, 2, (some .boolean), [])) (ev_tr 210 (fun _ => (yJ6_bitCount_0f7a4, cJ6_bitCount_0f7a4, 1, (some .int), [])) (fun _ => (yJ9_abs_0f7a4, cJ9_abs_0f7a4, 1, (some .int), [])))) (ev_tr 213 (ev_tr 212 (fun _ => (yJ9_max_7cf53, cJ9_max_7cf53, 2, (some .int), [])) (fun _ => (yL_below, cL_below, 2, (some .int), []))) (ev_tr 214 (fun _ => (yL_cell, cL_cell, 2, (some .int), [])) (fun _ => (yL_areWords, cL_areWords, 3, (some .boolean), []))))))))))
theorem cz_0 : (mt 0).2.2.2.2 = [] := rfl
theorem cc_0 : Cond.code (mt 0).1 (mt 0).2.1 (mt 0).2.2.1 (mt 0).2.2.2.1 ∈ lw_g := mG 1120 (by decide +kernel) rfl
theorem ci_0 : Cond.initialized (mt 0).1.cls ∈ lw_g := w_46
theorem cm_0 : Cond.instanceMethod (mt 0).1 ∈ lw_g := w_1119
theorem cd_0 : (mt 0).1.cls ≠ "java/lang/invoke/MethodHandle" ∧ (mt 0).1.cls ≠ "java/lang/invoke/VarHandle" ∧ (parseMethodDescriptor (mt 0).1.desc).map (fun d => d.parameters.length) = some 0 := ⟨by decide +kernel, by decide +kernel, by decide +kernel⟩
theorem cl_0 : (mt 0).2.2.1 ≤ 17 := by decide
theorem cz_1 : (mt 1).2.2.2.2 = [] := rfl
theorem cc_1 : Cond.code (mt 1).1 (mt 1).2.1 (mt 1).2.2.1 (mt 1).2.2.2.1 ∈ lw_g := mG 613 (by decide +kernel) rfl
theorem ci_1 : Cond.initialized (mt 1).1.cls ∈ lw_g := w_46
theorem cm_1 : Cond.instanceMethod (mt 1).1 ∈ lw_g := w_611
theorem cs_1 : Cond.selects (mt 1).1.cls (mt 1).1 (mt 1).1 ∈ lw_g := w_612
theorem cd_1 : (mt 1).1.cls ≠ "java/lang/invoke/MethodHandle" ∧ (mt 1).1.cls ≠ "java/lang/invoke/VarHandle" ∧ (parseMethodDescriptor (mt 1).1.desc).map (fun d => d.parameters.length) = some 0 := ⟨by decide +kernel, by decide +kernel, by decide +kernel⟩
theorem cl_1 : (mt 1).2.2.1 ≤ 17 := by decide
theorem cz_2 : (mt 2).2.2.2.2 = [] := rfl
theorem cc_2 : Cond.code (mt 2).1 (mt 2).2.1 (mt 2).2.2.1 (mt 2).2.2.2.1 ∈ lw_g := mG 545 (by decide +kernel) rfl
theorem ci_2 : Cond.initialized (mt 2).1.cls ∈ lw_g := w_46
theorem cm_2 : Cond.instanceMethod (mt 2).1 ∈ lw_g := w_543
theorem cs_2 : Cond.selects (mt 2).1.cls (mt 2).1 (mt 2).1 ∈ lw_g := w_544
theorem cd_2 : (mt 2).1.cls ≠ "java/lang/invoke/MethodHandle" ∧ (mt 2).1.cls ≠ "java/lang/invoke/VarHandle" ∧ (parseMethodDescriptor (mt 2).1.desc).map (fun d => d.parameters.length) = some 0 := ⟨by decide +kernel, by decide +kernel, by decide +kernel⟩
theorem cl_2 : (mt 2).2.2.1 ≤ 17 := by decide
theorem cz_3 : (mt 3).2.2.2.2 = [] := rfl
theorem cc_3 : Cond.code (mt 3).1 (mt 3).2.1 (mt 3).2.2.1 (mt 3).2.2.2.1 ∈ lw_g := mG 553 (by decide +kernel) rfl
theorem ci_3 : Cond.initialized (mt 3).1.cls ∈ lw_g := w_46
theorem cm_3 : Cond.instanceMethod (mt 3).1 ∈ lw_g := w_551
theorem cs_3 : Cond.selects (mt 3).1.cls (mt 3).1 (mt 3).1 ∈ lw_g := w_552
theorem cd_3 : (mt 3).1.cls ≠ "java/lang/invoke/MethodHandle" ∧ (mt 3).1.cls ≠ "java/lang/invoke/VarHandle" ∧ (parseMethodDescriptor (mt 3).1.desc).map (fun d => d.parameters.length) = some 4 := ⟨by decide +kernel, by decide +kernel, by decide +kernel⟩
theorem cl_3 : (mt 3).2.2.1 ≤ 17 := by decide
theorem cz_4 : (mt 4).2.2.2.2 = [] := rfl
theorem cc_4 : Cond.code (mt 4).1 (mt 4).2.1 (mt 4).2.2.1 (mt 4).2.2.2.1 ∈ lw_g := mG 888 (by decide +kernel) rfl
theorem ci_4 : Cond.initialized (mt 4).1.cls ∈ lw_g := w_46
theorem cm_4 : Cond.instanceMethod (mt 4).1 ∈ lw_g := w_886
theorem cs_4 : Cond.selects (mt 4).1.cls (mt 4).1 (mt 4).1 ∈ lw_g := w_887
theorem cd_4 : (mt 4).1.cls ≠ "java/lang/invoke/MethodHandle" ∧ (mt 4).1.cls ≠ "java/lang/invoke/VarHandle" ∧ (parseMethodDescriptor (mt 4).1.desc).map (fun d => d.parameters.length) = some 2 := ⟨by decide +kernel, by decide +kernel, by decide +kernel⟩
theorem cl_4 : (mt 4).2.2.1 ≤ 17 := by decide
theorem cz_5 : (mt 5).2.2.2.2 = [] := rfl
theorem cc_5 : Cond.code (mt 5).1 (mt 5).2.1 (mt 5).2.2.1 (mt 5).2.2.2.1 ∈ lw_g := mG 1105 (by decide +kernel) rfl
theorem ci_5 : Cond.initialized (mt 5).1.cls ∈ lw_g := w_44
theorem cm_5 : Cond.instanceMethod (mt 5).1 ∈ lw_g := w_1104
theorem cd_5 : (mt 5).1.cls ≠ "java/lang/invoke/MethodHandle" ∧ (mt 5).1.cls ≠ "java/lang/invoke/VarHandle" ∧ (parseMethodDescriptor (mt 5).1.desc).map (fun d => d.parameters.length) = some 0 := ⟨by decide +kernel, by decide +kernel, by decide +kernel⟩
theorem cl_5 : (mt 5).2.2.1 ≤ 17 := by decide
theorem cz_6 : (mt 6).2.2.2.2 = [] := rfl
theorem cc_6 : Cond.code (mt 6).1 (mt 6).2.1 (mt 6).2.2.1 (mt 6).2.2.2.1 ∈ lw_g := mG 595 (by decide +kernel) rfl
theorem ci_6 : Cond.initialized (mt 6).1.cls ∈ lw_g := w_44
theorem cm_6 : Cond.instanceMethod (mt 6).1 ∈ lw_g := w_593
theorem cs_6 : Cond.selects (mt 6).1.cls (mt 6).1 (mt 6).1 ∈ lw_g := w_594
theorem cd_6 : (mt 6).1.cls ≠ "java/lang/invoke/MethodHandle" ∧ (mt 6).1.cls ≠ "java/lang/invoke/VarHandle" ∧ (parseMethodDescriptor (mt 6).1.desc).map (fun d => d.parameters.length) = some 1 := ⟨by decide +kernel, by decide +kernel, by decide +kernel⟩
theorem cl_6 : (mt 6).2.2.1 ≤ 17 := by decide
theorem cz_7 : (mt 7).2.2.2.2 = [] := rfl
theorem cc_7 : Cond.code (mt 7).1 (mt 7).2.1 (mt 7).2.2.1 (mt 7).2.2.2.1 ∈ lw_g := mG 608 (by decide +kernel) rfl
theorem ci_7 : Cond.initialized (mt 7).1.cls ∈ lw_g := w_44
theorem cm_7 : Cond.instanceMethod (mt 7).1 ∈ lw_g := w_606
theorem cs_7 : Cond.selects (mt 7).1.cls (mt 7).1 (mt 7).1 ∈ lw_g := w_607
theorem cd_7 : (mt 7).1.cls ≠ "java/lang/invoke/MethodHandle" ∧ (mt 7).1.cls ≠ "java/lang/invoke/VarHandle" ∧ (parseMethodDescriptor (mt 7).1.desc).map (fun d => d.parameters.length) = some 2 := ⟨by decide +kernel, by decide +kernel, by decide +kernel⟩
theorem cl_7 : (mt 7).2.2.1 ≤ 17 := by decide
theorem cz_8 : (mt 8).2.2.2.2 = [] := rfl
theorem cc_8 : Cond.code (mt 8).1 (mt 8).2.1 (mt 8).2.2.1 (mt 8).2.2.2.1 ∈ lw_g := mG 644 (by decide +kernel) rfl
theorem ci_8 : Cond.initialized (mt 8).1.cls ∈ lw_g := w_44
theorem cm_8 : Cond.instanceMethod (mt 8).1 ∈ lw_g := w_642
theorem cs_8 : Cond.selects (mt 8).1.cls (mt 8).1 (mt 8).1 ∈ lw_g := w_643
theorem cd_8 : (mt 8).1.cls ≠ "java/lang/invoke/MethodHandle" ∧ (mt 8).1.cls ≠ "java/lang/invoke/VarHandle" ∧ (parseMethodDescriptor (mt 8).1.desc).map (fun d => d.parameters.length) = some 1 := ⟨by decide +kernel, by decide +kernel, by decide +kernel⟩
theorem cl_8 : (mt 8).2.2.1 ≤ 17 := by decide
theorem cz_9 : (mt 9).2.2.2.2 = [] := rfl
theorem cc_9 : Cond.code (mt 9).1 (mt 9).2.1 (mt 9).2.2.1 (mt 9).2.2.2.1 ∈ lw_g := mG 1035 (by decide +kernel) rfl
theorem ci_9 : Cond.initialized (mt 9).1.cls ∈ lw_g := w_42
theorem cm_9 : Cond.instanceMethod (mt 9).1 ∈ lw_g := w_1034
theorem cd_9 : (mt 9).1.cls ≠ "java/lang/invoke/MethodHandle" ∧ (mt 9).1.cls ≠ "java/lang/invoke/VarHandle" ∧ (parseMethodDescriptor (mt 9).1.desc).map (fun d => d.parameters.length) = some 0 := ⟨by decide +kernel, by decide +kernel, by decide +kernel⟩
theorem cl_9 : (mt 9).2.2.1 ≤ 17 := by decide
theorem cz_10 : (mt 10).2.2.2.2 = [] := rfl
theorem cc_10 : Cond.code (mt 10).1 (mt 10).2.1 (mt 10).2.2.1 (mt 10).2.2.2.1 ∈ lw_g := mG 273 (by decide +kernel) rfl
theorem ci_10 : Cond.initialized (mt 10).1.cls ∈ lw_g := w_42
theorem cm_10 : Cond.instanceMethod (mt 10).1 ∈ lw_g := w_271
theorem cs_10 : Cond.selects (mt 10).1.cls (mt 10).1 (mt 10).1 ∈ lw_g := w_272
theorem cd_10 : (mt 10).1.cls ≠ "java/lang/invoke/MethodHandle" ∧ (mt 10).1.cls ≠ "java/lang/invoke/VarHandle" ∧ (parseMethodDescriptor (mt 10).1.desc).map (fun d => d.parameters.length) = some 0 := ⟨by decide +kernel, by decide +kernel, by decide +kernel⟩
theorem cl_10 : (mt 10).2.2.1 ≤ 17 := by decide
theorem cz_11 : (mt 11).2.2.2.2 = [] := rfl
theorem cc_11 : Cond.code (mt 11).1 (mt 11).2.1 (mt 11).2.2.1 (mt 11).2.2.2.1 ∈ lw_g := mG 1515 (by decide +kernel) rfl
theorem ci_11 : Cond.initialized (mt 11).1.cls ∈ lw_g := w_42
theorem cm_11 : Cond.instanceMethod (mt 11).1 ∈ lw_g := w_1513
theorem cs_11 : Cond.selects (mt 11).1.cls (mt 11).1 (mt 11).1 ∈ lw_g := w_1514
theorem cd_11 : (mt 11).1.cls ≠ "java/lang/invoke/MethodHandle" ∧ (mt 11).1.cls ≠ "java/lang/invoke/VarHandle" ∧ (parseMethodDescriptor (mt 11).1.desc).map (fun d => d.parameters.length) = some 0 := ⟨by decide +kernel, by decide +kernel, by decide +kernel⟩
theorem cl_11 : (mt 11).2.2.1 ≤ 17 := by decide
theorem cz_12 : (mt 12).2.2.2.2 = [] := rfl
theorem cc_12 : Cond.code (mt 12).1 (mt 12).2.1 (mt 12).2.2.1 (mt 12).2.2.2.1 ∈ lw_g := mG 1524 (by decide +kernel) rfl
theorem ci_12 : Cond.initialized (mt 12).1.cls ∈ lw_g := w_42
theorem cm_12 : Cond.instanceMethod (mt 12).1 ∈ lw_g := w_1522
theorem cs_12 : Cond.selects (mt 12).1.cls (mt 12).1 (mt 12).1 ∈ lw_g := w_1523
theorem cd_12 : (mt 12).1.cls ≠ "java/lang/invoke/MethodHandle" ∧ (mt 12).1.cls ≠ "java/lang/invoke/VarHandle" ∧ (parseMethodDescriptor (mt 12).1.desc).map (fun d => d.parameters.length) = some 2 := ⟨by decide +kernel, by decide +kernel, by decide +kernel⟩
theorem cl_12 : (mt 12).2.2.1 ≤ 17 := by decide
theorem cz_13 : (mt 13).2.2.2.2 = [] := rfl
theorem cc_13 : Cond.code (mt 13).1 (mt 13).2.1 (mt 13).2.2.1 (mt 13).2.2.2.1 ∈ lw_g := mG 1502 (by decide +kernel) rfl
theorem ci_13 : Cond.initialized (mt 13).1.cls ∈ lw_g := w_42
theorem cm_13 : Cond.instanceMethod (mt 13).1 ∈ lw_g := w_1500
theorem cs_13 : Cond.selects (mt 13).1.cls (mt 13).1 (mt 13).1 ∈ lw_g := w_1501
theorem cd_13 : (mt 13).1.cls ≠ "java/lang/invoke/MethodHandle" ∧ (mt 13).1.cls ≠ "java/lang/invoke/VarHandle" ∧ (parseMethodDescriptor (mt 13).1.desc).map (fun d => d.parameters.length) = some 0 := ⟨by decide +kernel, by decide +kernel, by decide +kernel⟩
theorem cl_13 : (mt 13).2.2.1 ≤ 17 := by decide
theorem cz_14 : (mt 14).2.2.2.2 = [] := rfl
theorem cc_14 : Cond.code (mt 14).1 (mt 14).2.1 (mt 14).2.2.1 (mt 14).2.2.2.1 ∈ lw_g := mG 1519 (by decide +kernel) rfl
theorem ci_14 : Cond.initialized (mt 14).1.cls ∈ lw_g := w_42
theorem cm_14 : Cond.instanceMethod (mt 14).1 ∈ lw_g := w_1517
theorem cs_14 : Cond.selects (mt 14).1.cls (mt 14).1 (mt 14).1 ∈ lw_g := w_1518
theorem cd_14 : (mt 14).1.cls ≠ "java/lang/invoke/MethodHandle" ∧ (mt 14).1.cls ≠ "java/lang/invoke/VarHandle" ∧ (parseMethodDescriptor (mt 14).1.desc).map (fun d => d.parameters.length) = some 1 := ⟨by decide +kernel, by decide +kernel, by decide +kernel⟩
theorem cl_14 : (mt 14).2.2.1 ≤ 17 := by decide
theorem cz_15 : (mt 15).2.2.2.2 = [] := rfl
theorem cc_15 : Cond.code (mt 15).1 (mt 15).2.1 (mt 15).2.2.1 (mt 15).2.2.2.1 ∈ lw_g := mG 242 (by decide +kernel) rfl
theorem ci_15 : Cond.initialized (mt 15).1.cls ∈ lw_g := w_42
theorem cm_15 : Cond.instanceMethod (mt 15).1 ∈ lw_g := w_240
theorem cs_15 : Cond.selects (mt 15).1.cls (mt 15).1 (mt 15).1 ∈ lw_g := w_241
theorem cd_15 : (mt 15).1.cls ≠ "java/lang/invoke/MethodHandle" ∧ (mt 15).1.cls ≠ "java/lang/invoke/VarHandle" ∧ (parseMethodDescriptor (mt 15).1.desc).map (fun d => d.parameters.length) = some 1 := ⟨by decide +kernel, by decide +kernel, by decide +kernel⟩
theorem cl_15 : (mt 15).2.2.1 ≤ 17 := by decide
theorem cz_16 : (mt 16).2.2.2.2 = [] := rfl
theorem cc_16 : Cond.code (mt 16).1 (mt 16).2.1 (mt 16).2.2.1 (mt 16).2.2.2.1 ∈ lw_g := mG 281 (by decide +kernel) rfl
theorem ci_16 : Cond.initialized (mt 16).1.cls ∈ lw_g := w_42
theorem cm_16 : Cond.instanceMethod (mt 16).1 ∈ lw_g := w_279
theorem cs_16 : Cond.selects (mt 16).1.cls (mt 16).1 (mt 16).1 ∈ lw_g := w_280
theorem cd_16 : (mt 16).1.cls ≠ "java/lang/invoke/MethodHandle" ∧ (mt 16).1.cls ≠ "java/lang/invoke/VarHandle" ∧ (parseMethodDescriptor (mt 16).1.desc).map (fun d => d.parameters.length) = some 1 := ⟨by decide +kernel, by decide +kernel, by decide +kernel⟩
theorem cl_16 : (mt 16).2.2.1 ≤ 17 := by decide
theorem cz_17 : (mt 17).2.2.2.2 = [] := rfl
theorem cc_17 : Cond.code (mt 17).1 (mt 17).2.1 (mt 17).2.2.1 (mt 17).2.2.2.1 ∈ lw_g := mG 277 (by decide +kernel) rfl
theorem ci_17 : Cond.initialized (mt 17).1.cls ∈ lw_g := w_42
theorem cm_17 : Cond.instanceMethod (mt 17).1 ∈ lw_g := w_275
theorem cs_17 : Cond.selects (mt 17).1.cls (mt 17).1 (mt 17).1 ∈ lw_g := w_276
theorem cd_17 : (mt 17).1.cls ≠ "java/lang/invoke/MethodHandle" ∧ (mt 17).1.cls ≠ "java/lang/invoke/VarHandle" ∧ (parseMethodDescriptor (mt 17).1.desc).map (fun d => d.parameters.length) = some 1 := ⟨by decide +kernel, by decide +kernel, by decide +kernel⟩
theorem cl_17 : (mt 17).2.2.1 ≤ 17 := by decide
theorem cz_18 : (mt 18).2.2.2.2 = [] := rfl
theorem cc_18 : Cond.code (mt 18).1 (mt 18).2.1 (mt 18).2.2.1 (mt 18).2.2.2.1 ∈ lw_g := mG 300 (by decide +kernel) rfl
theorem ci_18 : Cond.initialized (mt 18).1.cls ∈ lw_g := w_42
theorem cm_18 : Cond.instanceMethod (mt 18).1 ∈ lw_g := w_298
theorem cs_18 : Cond.selects (mt 18).1.cls (mt 18).1 (mt 18).1 ∈ lw_g := w_299
theorem cd_18 : (mt 18).1.cls ≠ "java/lang/invoke/MethodHandle" ∧ (mt 18).1.cls ≠ "java/lang/invoke/VarHandle" ∧ (parseMethodDescriptor (mt 18).1.desc).map (fun d => d.parameters.length) = some 1 := ⟨by decide +kernel, by decide +kernel, by decide +kernel⟩
theorem cl_18 : (mt 18).2.2.1 ≤ 17 := by decide
theorem cz_19 : (mt 19).2.2.2.2 = [] := rfl
theorem cc_19 : Cond.code (mt 19).1 (mt 19).2.1 (mt 19).2.2.1 (mt 19).2.2.2.1 ∈ lw_g := mG 308 (by decide +kernel) rfl
theorem ci_19 : Cond.initialized (mt 19).1.cls ∈ lw_g := w_42
theorem cm_19 : Cond.instanceMethod (mt 19).1 ∈ lw_g := w_306
theorem cs_19 : Cond.selects (mt 19).1.cls (mt 19).1 (mt 19).1 ∈ lw_g := w_307
theorem cd_19 : (mt 19).1.cls ≠ "java/lang/invoke/MethodHandle" ∧ (mt 19).1.cls ≠ "java/lang/invoke/VarHandle" ∧ (parseMethodDescriptor (mt 19).1.desc).map (fun d => d.parameters.length) = some 1 := ⟨by decide +kernel, by decide +kernel, by decide +kernel⟩
theorem cl_19 : (mt 19).2.2.1 ≤ 17 := by decide
theorem cz_20 : (mt 20).2.2.2.2 = [] := rfl
theorem cc_20 : Cond.code (mt 20).1 (mt 20).2.1 (mt 20).2.2.1 (mt 20).2.2.2.1 ∈ lw_g := mG 1228 (by decide +kernel) rfl
theorem ci_20 : Cond.initialized (mt 20).1.cls ∈ lw_g := w_50
theorem cm_20 : Cond.instanceMethod (mt 20).1 ∈ lw_g := w_1227
theorem cd_20 : (mt 20).1.cls ≠ "java/lang/invoke/MethodHandle" ∧ (mt 20).1.cls ≠ "java/lang/invoke/VarHandle" ∧ (parseMethodDescriptor (mt 20).1.desc).map (fun d => d.parameters.length) = some 4 := ⟨by decide +kernel, by decide +kernel, by decide +kernel⟩
theorem cl_20 : (mt 20).2.2.1 ≤ 17 := by decide
theorem cz_21 : (mt 21).2.2.2.2 = [] := rfl
theorem cc_21 : Cond.code (mt 21).1 (mt 21).2.1 (mt 21).2.2.1 (mt 21).2.2.2.1 ∈ lw_g := mG 591 (by decide +kernel) rfl
theorem ci_21 : Cond.initialized (mt 21).1.cls ∈ lw_g := w_50
theorem cm_21 : Cond.instanceMethod (mt 21).1 ∈ lw_g := w_589
theorem cs_21 : Cond.selects (mt 21).1.cls (mt 21).1 (mt 21).1 ∈ lw_g := w_590
theorem cd_21 : (mt 21).1.cls ≠ "java/lang/invoke/MethodHandle" ∧ (mt 21).1.cls ≠ "java/lang/invoke/VarHandle" ∧ (parseMethodDescriptor (mt 21).1.desc).map (fun d => d.parameters.length) = some 0 := ⟨by decide +kernel, by decide +kernel, by decide +kernel⟩
theorem cl_21 : (mt 21).2.2.1 ≤ 17 := by decide
theorem cz_22 : (mt 22).2.2.2.2 = [] := rfl
theorem cc_22 : Cond.code (mt 22).1 (mt 22).2.1 (mt 22).2.2.1 (mt 22).2.2.2.1 ∈ lw_g := mG 558 (by decide +kernel) rfl
theorem ci_22 : Cond.initialized (mt 22).1.cls ∈ lw_g := w_50
theorem cm_22 : Cond.instanceMethod (mt 22).1 ∈ lw_g := w_556
theorem cs_22 : Cond.selects (mt 22).1.cls (mt 22).1 (mt 22).1 ∈ lw_g := w_557
theorem cd_22 : (mt 22).1.cls ≠ "java/lang/invoke/MethodHandle" ∧ (mt 22).1.cls ≠ "java/lang/invoke/VarHandle" ∧ (parseMethodDescriptor (mt 22).1.desc).map (fun d => d.parameters.length) = some 0 := ⟨by decide +kernel, by decide +kernel, by decide +kernel⟩
theorem cl_22 : (mt 22).2.2.1 ≤ 17 := by decide
theorem cz_23 : (mt 23).2.2.2.2 = [] := rfl
theorem cc_23 : Cond.code (mt 23).1 (mt 23).2.1 (mt 23).2.2.1 (mt 23).2.2.2.1 ∈ lw_g := mG 562 (by decide +kernel) rfl
theorem ci_23 : Cond.initialized (mt 23).1.cls ∈ lw_g := w_50
theorem cm_23 : Cond.instanceMethod (mt 23).1 ∈ lw_g := w_560
theorem cs_23 : Cond.selects (mt 23).1.cls (mt 23).1 (mt 23).1 ∈ lw_g := w_561
theorem cd_23 : (mt 23).1.cls ≠ "java/lang/invoke/MethodHandle" ∧ (mt 23).1.cls ≠ "java/lang/invoke/VarHandle" ∧ (parseMethodDescriptor (mt 23).1.desc).map (fun d => d.parameters.length) = some 1 := ⟨by decide +kernel, by decide +kernel, by decide +kernel⟩
theorem cl_23 : (mt 23).2.2.1 ≤ 17 := by decide
theorem cz_24 : (mt 24).2.2.2.2 = [] := rfl
theorem cc_24 : Cond.code (mt 24).1 (mt 24).2.1 (mt 24).2.2.1 (mt 24).2.2.2.1 ∈ lw_g := mG 600 (by decide +kernel) rfl
theorem ci_24 : Cond.initialized (mt 24).1.cls ∈ lw_g := w_50
theorem cm_24 : Cond.instanceMethod (mt 24).1 ∈ lw_g := w_598
theorem cs_24 : Cond.selects (mt 24).1.cls (mt 24).1 (mt 24).1 ∈ lw_g := w_599
theorem cd_24 : (mt 24).1.cls ≠ "java/lang/invoke/MethodHandle" ∧ (mt 24).1.cls ≠ "java/lang/invoke/VarHandle" ∧ (parseMethodDescriptor (mt 24).1.desc).map (fun d => d.parameters.length) = some 1 := ⟨by decide +kernel, by decide +kernel, by decide +kernel⟩
theorem cl_24 : (mt 24).2.2.1 ≤ 17 := by decide
theorem cz_25 : (mt 25).2.2.2.2 = [] := rfl
theorem cc_25 : Cond.code (mt 25).1 (mt 25).2.1 (mt 25).2.2.1 (mt 25).2.2.2.1 ∈ lw_g := mG 629 (by decide +kernel) rfl
theorem ci_25 : Cond.initialized (mt 25).1.cls ∈ lw_g := w_50
theorem cm_25 : Cond.instanceMethod (mt 25).1 ∈ lw_g := w_627
theorem cs_25 : Cond.selects (mt 25).1.cls (mt 25).1 (mt 25).1 ∈ lw_g := w_628
theorem cd_25 : (mt 25).1.cls ≠ "java/lang/invoke/MethodHandle" ∧ (mt 25).1.cls ≠ "java/lang/invoke/VarHandle" ∧ (parseMethodDescriptor (mt 25).1.desc).map (fun d => d.parameters.length) = some 1 := ⟨by decide +kernel, by decide +kernel, by decide +kernel⟩
theorem cl_25 : (mt 25).2.2.1 ≤ 17 := by decide
theorem cz_26 : (mt 26).2.2.2.2 = [] := rfl
theorem cc_26 : Cond.code (mt 26).1 (mt 26).2.1 (mt 26).2.2.1 (mt 26).2.2.2.1 ∈ lw_g := mG 633 (by decide +kernel) rfl
theorem ci_26 : Cond.initialized (mt 26).1.cls ∈ lw_g := w_50
theorem cm_26 : Cond.instanceMethod (mt 26).1 ∈ lw_g := w_631
theorem cs_26 : Cond.selects (mt 26).1.cls (mt 26).1 (mt 26).1 ∈ lw_g := w_632
theorem cd_26 : (mt 26).1.cls ≠ "java/lang/invoke/MethodHandle" ∧ (mt 26).1.cls ≠ "java/lang/invoke/VarHandle" ∧ (parseMethodDescriptor (mt 26).1.desc).map (fun d => d.parameters.length) = some 1 := ⟨by decide +kernel, by decide +kernel, by decide +kernel⟩
theorem cl_26 : (mt 26).2.2.1 ≤ 17 := by decide
theorem cz_27 : (mt 27).2.2.2.2 = [] := rfl
theorem cc_27 : Cond.code (mt 27).1 (mt 27).2.1 (mt 27).2.2.1 (mt 27).2.2.2.1 ∈ lw_g := mG 826 (by decide +kernel) rfl
theorem ci_27 : Cond.initialized (mt 27).1.cls ∈ lw_g := w_50
theorem cm_27 : Cond.instanceMethod (mt 27).1 ∈ lw_g := w_824
theorem cs_27 : Cond.selects (mt 27).1.cls (mt 27).1 (mt 27).1 ∈ lw_g := w_825
theorem cd_27 : (mt 27).1.cls ≠ "java/lang/invoke/MethodHandle" ∧ (mt 27).1.cls ≠ "java/lang/invoke/VarHandle" ∧ (parseMethodDescriptor (mt 27).1.desc).map (fun d => d.parameters.length) = some 0 := ⟨by decide +kernel, by decide +kernel, by decide +kernel⟩
theorem cl_27 : (mt 27).2.2.1 ≤ 17 := by decide
theorem cz_28 : (mt 28).2.2.2.2 = [] := rfl
theorem cc_28 : Cond.code (mt 28).1 (mt 28).2.1 (mt 28).2.2.1 (mt 28).2.2.2.1 ∈ lw_g := mG 681 (by decide +kernel) rfl
theorem ci_28 : Cond.initialized (mt 28).1.cls ∈ lw_g := w_50
theorem cm_28 : Cond.instanceMethod (mt 28).1 ∈ lw_g := w_679
theorem cs_28 : Cond.selects (mt 28).1.cls (mt 28).1 (mt 28).1 ∈ lw_g := w_680
theorem cd_28 : (mt 28).1.cls ≠ "java/lang/invoke/MethodHandle" ∧ (mt 28).1.cls ≠ "java/lang/invoke/VarHandle" ∧ (parseMethodDescriptor (mt 28).1.desc).map (fun d => d.parameters.length) = some 1 := ⟨by decide +kernel, by decide +kernel, by decide +kernel⟩
theorem cl_28 : (mt 28).2.2.1 ≤ 17 := by decide
theorem cz_29 : (mt 29).2.2.2.2 = [] := rfl
theorem cc_29 : Cond.code (mt 29).1 (mt 29).2.1 (mt 29).2.2.1 (mt 29).2.2.2.1 ∈ lw_g := mG 532 (by decide +kernel) rfl
theorem ci_29 : Cond.initialized (mt 29).1.cls ∈ lw_g := w_50
theorem cm_29 : Cond.instanceMethod (mt 29).1 ∈ lw_g := w_530
theorem cs_29 : Cond.selects (mt 29).1.cls (mt 29).1 (mt 29).1 ∈ lw_g := w_531
theorem cd_29 : (mt 29).1.cls ≠ "java/lang/invoke/MethodHandle" ∧ (mt 29).1.cls ≠ "java/lang/invoke/VarHandle" ∧ (parseMethodDescriptor (mt 29).1.desc).map (fun d => d.parameters.length) = some 1 := ⟨by decide +kernel, by decide +kernel, by decide +kernel⟩
theorem cl_29 : (mt 29).2.2.1 ≤ 17 := by decide
theorem cz_30 : (mt 30).2.2.2.2 = [] := rfl
theorem cc_30 : Cond.code (mt 30).1 (mt 30).2.1 (mt 30).2.2.1 (mt 30).2.2.2.1 ∈ lw_g := mG 493 (by decide +kernel) rfl
theorem ci_30 : Cond.initialized (mt 30).1.cls ∈ lw_g := w_50
theorem cm_30 : Cond.instanceMethod (mt 30).1 ∈ lw_g := w_491
theorem cs_30 : Cond.selects (mt 30).1.cls (mt 30).1 (mt 30).1 ∈ lw_g := w_492
theorem cd_30 : (mt 30).1.cls ≠ "java/lang/invoke/MethodHandle" ∧ (mt 30).1.cls ≠ "java/lang/invoke/VarHandle" ∧ (parseMethodDescriptor (mt 30).1.desc).map (fun d => d.parameters.length) = some 2 := ⟨by decide +kernel, by decide +kernel, by decide +kernel⟩
theorem cl_30 : (mt 30).2.2.1 ≤ 17 := by decide
theorem cz_31 : (mt 31).2.2.2.2 = [] := rfl
theorem cc_31 : Cond.code (mt 31).1 (mt 31).2.1 (mt 31).2.2.1 (mt 31).2.2.2.1 ∈ lw_g := mG 452 (by decide +kernel) rfl
theorem ci_31 : Cond.initialized (mt 31).1.cls ∈ lw_g := w_50
theorem cm_31 : Cond.instanceMethod (mt 31).1 ∈ lw_g := w_450
theorem cs_31 : Cond.selects (mt 31).1.cls (mt 31).1 (mt 31).1 ∈ lw_g := w_451
theorem cd_31 : (mt 31).1.cls ≠ "java/lang/invoke/MethodHandle" ∧ (mt 31).1.cls ≠ "java/lang/invoke/VarHandle" ∧ (parseMethodDescriptor (mt 31).1.desc).map (fun d => d.parameters.length) = some 1 := ⟨by decide +kernel, by decide +kernel, by decide +kernel⟩
theorem cl_31 : (mt 31).2.2.1 ≤ 17 := by decide
theorem cz_32 : (mt 32).2.2.2.2 = [] := rfl
theorem cc_32 : Cond.code (mt 32).1 (mt 32).2.1 (mt 32).2.2.1 (mt 32).2.2.2.1 ∈ lw_g := mG 457 (by decide +kernel) rfl
theorem ci_32 : Cond.initialized (mt 32).1.cls ∈ lw_g := w_50
theorem cm_32 : Cond.instanceMethod (mt 32).1 ∈ lw_g := w_455
theorem cs_32 : Cond.selects (mt 32).1.cls (mt 32).1 (mt 32).1 ∈ lw_g := w_13
theorem cd_32 : (mt 32).1.cls ≠ "java/lang/invoke/MethodHandle" ∧ (mt 32).1.cls ≠ "java/lang/invoke/VarHandle" ∧ (parseMethodDescriptor (mt 32).1.desc).map (fun d => d.parameters.length) = some 0 := ⟨by decide +kernel, by decide +kernel, by decide +kernel⟩
theorem cl_32 : (mt 32).2.2.1 ≤ 17 := by decide
theorem cz_33 : (mt 33).2.2.2.2 = [] := rfl
theorem cc_33 : Cond.code (mt 33).1 (mt 33).2.1 (mt 33).2.2.1 (mt 33).2.2.2.1 ∈ lw_g := mG 469 (by decide +kernel) rfl
theorem ci_33 : Cond.initialized (mt 33).1.cls ∈ lw_g := w_50
theorem cm_33 : Cond.instanceMethod (mt 33).1 ∈ lw_g := w_468
theorem cs_33 : Cond.selects (mt 33).1.cls (mt 33).1 (mt 33).1 ∈ lw_g := w_14
theorem cd_33 : (mt 33).1.cls ≠ "java/lang/invoke/MethodHandle" ∧ (mt 33).1.cls ≠ "java/lang/invoke/VarHandle" ∧ (parseMethodDescriptor (mt 33).1.desc).map (fun d => d.parameters.length) = some 1 := ⟨by decide +kernel, by decide +kernel, by decide +kernel⟩
theorem cl_33 : (mt 33).2.2.1 ≤ 17 := by decide
theorem cz_34 : (mt 34).2.2.2.2 = [] := rfl
theorem cc_34 : Cond.code (mt 34).1 (mt 34).2.1 (mt 34).2.2.1 (mt 34).2.2.2.1 ∈ lw_g := mG 478 (by decide +kernel) rfl
theorem ci_34 : Cond.initialized (mt 34).1.cls ∈ lw_g := w_50
theorem cm_34 : Cond.instanceMethod (mt 34).1 ∈ lw_g := w_477
theorem cs_34 : Cond.selects (mt 34).1.cls (mt 34).1 (mt 34).1 ∈ lw_g := w_15
theorem cd_34 : (mt 34).1.cls ≠ "java/lang/invoke/MethodHandle" ∧ (mt 34).1.cls ≠ "java/lang/invoke/VarHandle" ∧ (parseMethodDescriptor (mt 34).1.desc).map (fun d => d.parameters.length) = some 0 := ⟨by decide +kernel, by decide +kernel, by decide +kernel⟩
theorem cl_34 : (mt 34).2.2.1 ≤ 17 := by decide
theorem cz_35 : (mt 35).2.2.2.2 = [] := rfl
theorem cc_35 : Cond.code (mt 35).1 (mt 35).2.1 (mt 35).2.2.1 (mt 35).2.2.2.1 ∈ lw_g := mG 497 (by decide +kernel) rfl
theorem ci_35 : Cond.initialized (mt 35).1.cls ∈ lw_g := w_50
theorem cm_35 : Cond.instanceMethod (mt 35).1 ∈ lw_g := w_496
theorem cs_35 : Cond.selects (mt 35).1.cls (mt 35).1 (mt 35).1 ∈ lw_g := w_17
theorem cd_35 : (mt 35).1.cls ≠ "java/lang/invoke/MethodHandle" ∧ (mt 35).1.cls ≠ "java/lang/invoke/VarHandle" ∧ (parseMethodDescriptor (mt 35).1.desc).map (fun d => d.parameters.length) = some 0 := ⟨by decide +kernel, by decide +kernel, by decide +kernel⟩
theorem cl_35 : (mt 35).2.2.1 ≤ 17 := by decide
theorem cz_36 : (mt 36).2.2.2.2 = [] := rfl
theorem cc_36 : Cond.code (mt 36).1 (mt 36).2.1 (mt 36).2.2.1 (mt 36).2.2.2.1 ∈ lw_g := mG 513 (by decide +kernel) rfl
theorem ci_36 : Cond.initialized (mt 36).1.cls ∈ lw_g := w_50
theorem cm_36 : Cond.instanceMethod (mt 36).1 ∈ lw_g := w_512
theorem cs_36 : Cond.selects (mt 36).1.cls (mt 36).1 (mt 36).1 ∈ lw_g := w_18
theorem cd_36 : (mt 36).1.cls ≠ "java/lang/invoke/MethodHandle" ∧ (mt 36).1.cls ≠ "java/lang/invoke/VarHandle" ∧ (parseMethodDescriptor (mt 36).1.desc).map (fun d => d.parameters.length) = some 0 := ⟨by decide +kernel, by decide +kernel, by decide +kernel⟩
theorem cl_36 : (mt 36).2.2.1 ≤ 17 := by decide
theorem cz_37 : (mt 37).2.2.2.2 = [] := rfl
theorem cc_37 : Cond.code (mt 37).1 (mt 37).2.1 (mt 37).2.2.1 (mt 37).2.2.2.1 ∈ lw_g := mG 489 (by decide +kernel) rfl
theorem ci_37 : Cond.initialized (mt 37).1.cls ∈ lw_g := w_50
theorem cm_37 : Cond.instanceMethod (mt 37).1 ∈ lw_g := w_488
theorem cs_37 : Cond.selects (mt 37).1.cls (mt 37).1 (mt 37).1 ∈ lw_g := w_16
theorem cd_37 : (mt 37).1.cls ≠ "java/lang/invoke/MethodHandle" ∧ (mt 37).1.cls ≠ "java/lang/invoke/VarHandle" ∧ (parseMethodDescriptor (mt 37).1.desc).map (fun d => d.parameters.length) = some 2 := ⟨by decide +kernel, by decide +kernel, by decide +kernel⟩
theorem cl_37 : (mt 37).2.2.1 ≤ 17 := by decide
theorem cz_38 : (mt 38).2.2.2.2 = [] := rfl
theorem cc_38 : Cond.code (mt 38).1 (mt 38).2.1 (mt 38).2.2.1 (mt 38).2.2.2.1 ∈ lw_g := mG 522 (by decide +kernel) rfl
theorem ci_38 : Cond.initialized (mt 38).1.cls ∈ lw_g := w_50
theorem cm_38 : Cond.instanceMethod (mt 38).1 ∈ lw_g := w_521
theorem cs_38 : Cond.selects (mt 38).1.cls (mt 38).1 (mt 38).1 ∈ lw_g := w_19
theorem cd_38 : (mt 38).1.cls ≠ "java/lang/invoke/MethodHandle" ∧ (mt 38).1.cls ≠ "java/lang/invoke/VarHandle" ∧ (parseMethodDescriptor (mt 38).1.desc).map (fun d => d.parameters.length) = some 1 := ⟨by decide +kernel, by decide +kernel, by decide +kernel⟩
theorem cl_38 : (mt 38).2.2.1 ≤ 17 := by decide
theorem cz_39 : (mt 39).2.2.2.2 = [] := rfl
theorem cc_39 : Cond.code (mt 39).1 (mt 39).2.1 (mt 39).2.2.1 (mt 39).2.2.2.1 ∈ lw_g := mG 526 (by decide +kernel) rfl
theorem ci_39 : Cond.initialized (mt 39).1.cls ∈ lw_g := w_50
theorem cm_39 : Cond.instanceMethod (mt 39).1 ∈ lw_g := w_525
theorem cs_39 : Cond.selects (mt 39).1.cls (mt 39).1 (mt 39).1 ∈ lw_g := w_20
theorem cd_39 : (mt 39).1.cls ≠ "java/lang/invoke/MethodHandle" ∧ (mt 39).1.cls ≠ "java/lang/invoke/VarHandle" ∧ (parseMethodDescriptor (mt 39).1.desc).map (fun d => d.parameters.length) = some 2 := ⟨by decide +kernel, by decide +kernel, by decide +kernel⟩
theorem cl_39 : (mt 39).2.2.1 ≤ 17 := by decide
theorem cz_40 : (mt 40).2.2.2.2 = [] := rfl
theorem cc_40 : Cond.code (mt 40).1 (mt 40).2.1 (mt 40).2.2.1 (mt 40).2.2.2.1 ∈ lw_g := mG 1050 (by decide +kernel) rfl
theorem ci_40 : Cond.initialized (mt 40).1.cls ∈ lw_g := w_43
theorem cm_40 : Cond.instanceMethod (mt 40).1 ∈ lw_g := w_1049
theorem cd_40 : (mt 40).1.cls ≠ "java/lang/invoke/MethodHandle" ∧ (mt 40).1.cls ≠ "java/lang/invoke/VarHandle" ∧ (parseMethodDescriptor (mt 40).1.desc).map (fun d => d.parameters.length) = some 0 := ⟨by decide +kernel, by decide +kernel, by decide +kernel⟩
theorem cl_40 : (mt 40).2.2.1 ≤ 17 := by decide
theorem cz_41 : (mt 41).2.2.2.2 = [] := rfl
theorem cc_41 : Cond.code (mt 41).1 (mt 41).2.1 (mt 41).2.2.1 (mt 41).2.2.2.1 ∈ lw_g := mG 652 (by decide +kernel) rfl
theorem ci_41 : Cond.initialized (mt 41).1.cls ∈ lw_g := w_43
theorem cm_41 : Cond.instanceMethod (mt 41).1 ∈ lw_g := w_650
theorem cs_41 : Cond.selects (mt 41).1.cls (mt 41).1 (mt 41).1 ∈ lw_g := w_651
theorem cd_41 : (mt 41).1.cls ≠ "java/lang/invoke/MethodHandle" ∧ (mt 41).1.cls ≠ "java/lang/invoke/VarHandle" ∧ (parseMethodDescriptor (mt 41).1.desc).map (fun d => d.parameters.length) = some 0 := ⟨by decide +kernel, by decide +kernel, by decide +kernel⟩
theorem cl_41 : (mt 41).2.2.1 ≤ 17 := by decide
theorem cz_42 : (mt 42).2.2.2.2 = [] := rfl
theorem cc_42 : Cond.code (mt 42).1 (mt 42).2.1 (mt 42).2.2.1 (mt 42).2.2.2.1 ∈ lw_g := mG 658 (by decide +kernel) rfl
theorem ci_42 : Cond.initialized (mt 42).1.cls ∈ lw_g := w_43
theorem cm_42 : Cond.instanceMethod (mt 42).1 ∈ lw_g := w_656
theorem cs_42 : Cond.selects (mt 42).1.cls (mt 42).1 (mt 42).1 ∈ lw_g := w_657
theorem cd_42 : (mt 42).1.cls ≠ "java/lang/invoke/MethodHandle" ∧ (mt 42).1.cls ≠ "java/lang/invoke/VarHandle" ∧ (parseMethodDescriptor (mt 42).1.desc).map (fun d => d.parameters.length) = some 0 := ⟨by decide +kernel, by decide +kernel, by decide +kernel⟩
theorem cl_42 : (mt 42).2.2.1 ≤ 17 := by decide
theorem cz_43 : (mt 43).2.2.2.2 = [] := rfl
theorem cc_43 : Cond.code (mt 43).1 (mt 43).2.1 (mt 43).2.2.1 (mt 43).2.2.2.1 ∈ lw_g := mG 690 (by decide +kernel) rfl
theorem ci_43 : Cond.initialized (mt 43).1.cls ∈ lw_g := w_43
theorem cm_43 : Cond.instanceMethod (mt 43).1 ∈ lw_g := w_688
theorem cs_43 : Cond.selects (mt 43).1.cls (mt 43).1 (mt 43).1 ∈ lw_g := w_689
theorem cd_43 : (mt 43).1.cls ≠ "java/lang/invoke/MethodHandle" ∧ (mt 43).1.cls ≠ "java/lang/invoke/VarHandle" ∧ (parseMethodDescriptor (mt 43).1.desc).map (fun d => d.parameters.length) = some 1 := ⟨by decide +kernel, by decide +kernel, by decide +kernel⟩
theorem cl_43 : (mt 43).2.2.1 ≤ 17 := by decide
theorem cz_44 : (mt 44).2.2.2.2 = [] := rfl
theorem cc_44 : Cond.code (mt 44).1 (mt 44).2.1 (mt 44).2.2.1 (mt 44).2.2.2.1 ∈ lw_g := mG 776 (by decide +kernel) rfl
theorem ci_44 : Cond.initialized (mt 44).1.cls ∈ lw_g := w_43
theorem cm_44 : Cond.instanceMethod (mt 44).1 ∈ lw_g := w_774
theorem cs_44 : Cond.selects (mt 44).1.cls (mt 44).1 (mt 44).1 ∈ lw_g := w_775
theorem cd_44 : (mt 44).1.cls ≠ "java/lang/invoke/MethodHandle" ∧ (mt 44).1.cls ≠ "java/lang/invoke/VarHandle" ∧ (parseMethodDescriptor (mt 44).1.desc).map (fun d => d.parameters.length) = some 1 := ⟨by decide +kernel, by decide +kernel, by decide +kernel⟩
theorem cl_44 : (mt 44).2.2.1 ≤ 17 := by decide
theorem cz_45 : (mt 45).2.2.2.2 = [] := rfl
theorem cc_45 : Cond.code (mt 45).1 (mt 45).2.1 (mt 45).2.2.1 (mt 45).2.2.2.1 ∈ lw_g := mG 788 (by decide +kernel) rfl
theorem ci_45 : Cond.initialized (mt 45).1.cls ∈ lw_g := w_43
theorem cm_45 : Cond.instanceMethod (mt 45).1 ∈ lw_g := w_786
theorem cs_45 : Cond.selects (mt 45).1.cls (mt 45).1 (mt 45).1 ∈ lw_g := w_787
theorem cd_45 : (mt 45).1.cls ≠ "java/lang/invoke/MethodHandle" ∧ (mt 45).1.cls ≠ "java/lang/invoke/VarHandle" ∧ (parseMethodDescriptor (mt 45).1.desc).map (fun d => d.parameters.length) = some 1 := ⟨by decide +kernel, by decide +kernel, by decide +kernel⟩
theorem cl_45 : (mt 45).2.2.1 ≤ 17 := by decide
theorem cz_46 : (mt 46).2.2.2.2 = [] := rfl
theorem cc_46 : Cond.code (mt 46).1 (mt 46).2.1 (mt 46).2.2.1 (mt 46).2.2.2.1 ∈ lw_g := mG 780 (by decide +kernel) rfl
theorem ci_46 : Cond.initialized (mt 46).1.cls ∈ lw_g := w_43
theorem cm_46 : Cond.instanceMethod (mt 46).1 ∈ lw_g := w_778
theorem cs_46 : Cond.selects (mt 46).1.cls (mt 46).1 (mt 46).1 ∈ lw_g := w_779
theorem cd_46 : (mt 46).1.cls ≠ "java/lang/invoke/MethodHandle" ∧ (mt 46).1.cls ≠ "java/lang/invoke/VarHandle" ∧ (parseMethodDescriptor (mt 46).1.desc).map (fun d => d.parameters.length) = some 1 := ⟨by decide +kernel, by decide +kernel, by decide +kernel⟩
theorem cl_46 : (mt 46).2.2.1 ≤ 17 := by decide
theorem cz_47 : (mt 47).2.2.2.2 = [] := rfl
theorem cc_47 : Cond.code (mt 47).1 (mt 47).2.1 (mt 47).2.2.1 (mt 47).2.2.2.1 ∈ lw_g := mG 784 (by decide +kernel) rfl
theorem ci_47 : Cond.initialized (mt 47).1.cls ∈ lw_g := w_43
theorem cm_47 : Cond.instanceMethod (mt 47).1 ∈ lw_g := w_782
theorem cs_47 : Cond.selects (mt 47).1.cls (mt 47).1 (mt 47).1 ∈ lw_g := w_783
theorem cd_47 : (mt 47).1.cls ≠ "java/lang/invoke/MethodHandle" ∧ (mt 47).1.cls ≠ "java/lang/invoke/VarHandle" ∧ (parseMethodDescriptor (mt 47).1.desc).map (fun d => d.parameters.length) = some 1 := ⟨by decide +kernel, by decide +kernel, by decide +kernel⟩
theorem cl_47 : (mt 47).2.2.1 ≤ 17 := by decide
theorem cz_48 : (mt 48).2.2.2.2 = [] := rfl
theorem cc_48 : Cond.code (mt 48).1 (mt 48).2.1 (mt 48).2.2.1 (mt 48).2.2.2.1 ∈ lw_g := mG 747 (by decide +kernel) rfl
theorem ci_48 : Cond.initialized (mt 48).1.cls ∈ lw_g := w_43
theorem cm_48 : Cond.instanceMethod (mt 48).1 ∈ lw_g := w_745
theorem cs_48 : Cond.selects (mt 48).1.cls (mt 48).1 (mt 48).1 ∈ lw_g := w_746
theorem cd_48 : (mt 48).1.cls ≠ "java/lang/invoke/MethodHandle" ∧ (mt 48).1.cls ≠ "java/lang/invoke/VarHandle" ∧ (parseMethodDescriptor (mt 48).1.desc).map (fun d => d.parameters.length) = some 1 := ⟨by decide +kernel, by decide +kernel, by decide +kernel⟩
theorem cl_48 : (mt 48).2.2.1 ≤ 17 := by decide
theorem cz_49 : (mt 49).2.2.2.2 = [] := rfl
theorem cc_49 : Cond.code (mt 49).1 (mt 49).2.1 (mt 49).2.2.1 (mt 49).2.2.2.1 ∈ lw_g := mG 714 (by decide +kernel) rfl
theorem ci_49 : Cond.initialized (mt 49).1.cls ∈ lw_g := w_43
theorem cm_49 : Cond.instanceMethod (mt 49).1 ∈ lw_g := w_712
theorem cs_49 : Cond.selects (mt 49).1.cls (mt 49).1 (mt 49).1 ∈ lw_g := w_713
theorem cd_49 : (mt 49).1.cls ≠ "java/lang/invoke/MethodHandle" ∧ (mt 49).1.cls ≠ "java/lang/invoke/VarHandle" ∧ (parseMethodDescriptor (mt 49).1.desc).map (fun d => d.parameters.length) = some 1 := ⟨by decide +kernel, by decide +kernel, by decide +kernel⟩
theorem cl_49 : (mt 49).2.2.1 ≤ 17 := by decide
theorem cz_50 : (mt 50).2.2.2.2 = [] := rfl
theorem cc_50 : Cond.code (mt 50).1 (mt 50).2.1 (mt 50).2.2.1 (mt 50).2.2.2.1 ∈ lw_g := mG 710 (by decide +kernel) rfl
theorem ci_50 : Cond.initialized (mt 50).1.cls ∈ lw_g := w_43
theorem cm_50 : Cond.instanceMethod (mt 50).1 ∈ lw_g := w_708
theorem cs_50 : Cond.selects (mt 50).1.cls (mt 50).1 (mt 50).1 ∈ lw_g := w_709
theorem cd_50 : (mt 50).1.cls ≠ "java/lang/invoke/MethodHandle" ∧ (mt 50).1.cls ≠ "java/lang/invoke/VarHandle" ∧ (parseMethodDescriptor (mt 50).1.desc).map (fun d => d.parameters.length) = some 1 := ⟨by decide +kernel, by decide +kernel, by decide +kernel⟩
theorem cl_50 : (mt 50).2.2.1 ≤ 17 := by decide
theorem cz_51 : (mt 51).2.2.2.2 = [] := rfl
theorem cc_51 : Cond.code (mt 51).1 (mt 51).2.1 (mt 51).2.2.1 (mt 51).2.2.2.1 ∈ lw_g := mG 908 (by decide +kernel) rfl
theorem ci_51 : Cond.initialized (mt 51).1.cls ∈ lw_g := w_43
theorem cm_51 : Cond.instanceMethod (mt 51).1 ∈ lw_g := w_906
theorem cs_51 : Cond.selects (mt 51).1.cls (mt 51).1 (mt 51).1 ∈ lw_g := w_907
theorem cd_51 : (mt 51).1.cls ≠ "java/lang/invoke/MethodHandle" ∧ (mt 51).1.cls ≠ "java/lang/invoke/VarHandle" ∧ (parseMethodDescriptor (mt 51).1.desc).map (fun d => d.parameters.length) = some 2 := ⟨by decide +kernel, by decide +kernel, by decide +kernel⟩
theorem cl_51 : (mt 51).2.2.1 ≤ 17 := by decide
theorem cz_52 : (mt 52).2.2.2.2 = [] := rfl
theorem cc_52 : Cond.code (mt 52).1 (mt 52).2.1 (mt 52).2.2.1 (mt 52).2.2.2.1 ∈ lw_g := mG 914 (by decide +kernel) rfl
theorem ci_52 : Cond.initialized (mt 52).1.cls ∈ lw_g := w_43
theorem cm_52 : Cond.instanceMethod (mt 52).1 ∈ lw_g := w_912
theorem cs_52 : Cond.selects (mt 52).1.cls (mt 52).1 (mt 52).1 ∈ lw_g := w_913
theorem cd_52 : (mt 52).1.cls ≠ "java/lang/invoke/MethodHandle" ∧ (mt 52).1.cls ≠ "java/lang/invoke/VarHandle" ∧ (parseMethodDescriptor (mt 52).1.desc).map (fun d => d.parameters.length) = some 2 := ⟨by decide +kernel, by decide +kernel, by decide +kernel⟩
theorem cl_52 : (mt 52).2.2.1 ≤ 17 := by decide
theorem cz_53 : (mt 53).2.2.2.2 = [] := rfl
theorem cc_53 : Cond.code (mt 53).1 (mt 53).2.1 (mt 53).2.2.1 (mt 53).2.2.2.1 ∈ lw_g := mG 904 (by decide +kernel) rfl
theorem ci_53 : Cond.initialized (mt 53).1.cls ∈ lw_g := w_43
theorem cm_53 : Cond.instanceMethod (mt 53).1 ∈ lw_g := w_902
theorem cs_53 : Cond.selects (mt 53).1.cls (mt 53).1 (mt 53).1 ∈ lw_g := w_903
theorem cd_53 : (mt 53).1.cls ≠ "java/lang/invoke/MethodHandle" ∧ (mt 53).1.cls ≠ "java/lang/invoke/VarHandle" ∧ (parseMethodDescriptor (mt 53).1.desc).map (fun d => d.parameters.length) = some 2 := ⟨by decide +kernel, by decide +kernel, by decide +kernel⟩
theorem cl_53 : (mt 53).2.2.1 ≤ 17 := by decide
theorem cz_54 : (mt 54).2.2.2.2 = [] := rfl
theorem cc_54 : Cond.code (mt 54).1 (mt 54).2.1 (mt 54).2.2.1 (mt 54).2.2.2.1 ∈ lw_g := mG 919 (by decide +kernel) rfl
theorem ci_54 : Cond.initialized (mt 54).1.cls ∈ lw_g := w_43
theorem cm_54 : Cond.instanceMethod (mt 54).1 ∈ lw_g := w_917
theorem cs_54 : Cond.selects (mt 54).1.cls (mt 54).1 (mt 54).1 ∈ lw_g := w_918
theorem cd_54 : (mt 54).1.cls ≠ "java/lang/invoke/MethodHandle" ∧ (mt 54).1.cls ≠ "java/lang/invoke/VarHandle" ∧ (parseMethodDescriptor (mt 54).1.desc).map (fun d => d.parameters.length) = some 2 := ⟨by decide +kernel, by decide +kernel, by decide +kernel⟩
theorem cl_54 : (mt 54).2.2.1 ≤ 17 := by decide
theorem cz_55 : (mt 55).2.2.2.2 = [] := rfl
theorem cc_55 : Cond.code (mt 55).1 (mt 55).2.1 (mt 55).2.2.1 (mt 55).2.2.2.1 ∈ lw_g := mG 923 (by decide +kernel) rfl
theorem ci_55 : Cond.initialized (mt 55).1.cls ∈ lw_g := w_43
theorem cm_55 : Cond.instanceMethod (mt 55).1 ∈ lw_g := w_921
theorem cs_55 : Cond.selects (mt 55).1.cls (mt 55).1 (mt 55).1 ∈ lw_g := w_922
theorem cd_55 : (mt 55).1.cls ≠ "java/lang/invoke/MethodHandle" ∧ (mt 55).1.cls ≠ "java/lang/invoke/VarHandle" ∧ (parseMethodDescriptor (mt 55).1.desc).map (fun d => d.parameters.length) = some 2 := ⟨by decide +kernel, by decide +kernel, by decide +kernel⟩
theorem cl_55 : (mt 55).2.2.1 ≤ 17 := by decide
theorem cz_56 : (mt 56).2.2.2.2 = [] := rfl
theorem cc_56 : Cond.code (mt 56).1 (mt 56).2.1 (mt 56).2.2.1 (mt 56).2.2.2.1 ∈ lw_g := mG 728 (by decide +kernel) rfl
theorem ci_56 : Cond.initialized (mt 56).1.cls ∈ lw_g := w_43
theorem cm_56 : Cond.instanceMethod (mt 56).1 ∈ lw_g := w_726
theorem cs_56 : Cond.selects (mt 56).1.cls (mt 56).1 (mt 56).1 ∈ lw_g := w_727
theorem cd_56 : (mt 56).1.cls ≠ "java/lang/invoke/MethodHandle" ∧ (mt 56).1.cls ≠ "java/lang/invoke/VarHandle" ∧ (parseMethodDescriptor (mt 56).1.desc).map (fun d => d.parameters.length) = some 1 := ⟨by decide +kernel, by decide +kernel, by decide +kernel⟩
theorem cl_56 : (mt 56).2.2.1 ≤ 17 := by decide
theorem cz_57 : (mt 57).2.2.2.2 = [] := rfl
theorem cc_57 : Cond.code (mt 57).1 (mt 57).2.1 (mt 57).2.2.1 (mt 57).2.2.2.1 ∈ lw_g := mG 794 (by decide +kernel) rfl
theorem ci_57 : Cond.initialized (mt 57).1.cls ∈ lw_g := w_43
theorem cm_57 : Cond.instanceMethod (mt 57).1 ∈ lw_g := w_792
theorem cs_57 : Cond.selects (mt 57).1.cls (mt 57).1 (mt 57).1 ∈ lw_g := w_793
theorem cd_57 : (mt 57).1.cls ≠ "java/lang/invoke/MethodHandle" ∧ (mt 57).1.cls ≠ "java/lang/invoke/VarHandle" ∧ (parseMethodDescriptor (mt 57).1.desc).map (fun d => d.parameters.length) = some 1 := ⟨by decide +kernel, by decide +kernel, by decide +kernel⟩
theorem cl_57 : (mt 57).2.2.1 ≤ 17 := by decide
theorem cz_58 : (mt 58).2.2.2.2 = [] := rfl
theorem cc_58 : Cond.code (mt 58).1 (mt 58).2.1 (mt 58).2.2.1 (mt 58).2.2.2.1 ∈ lw_g := mG 731 (by decide +kernel) rfl
theorem ci_58 : Cond.initialized (mt 58).1.cls ∈ lw_g := w_43
theorem cm_58 : Cond.static (mt 58).1 ∈ lw_g := w_730
theorem cd_58 : (mt 58).1.cls ≠ "java/lang/invoke/MethodHandle" ∧ (mt 58).1.cls ≠ "java/lang/invoke/VarHandle" ∧ (parseMethodDescriptor (mt 58).1.desc).map (fun d => d.parameters.length) = some 3 := ⟨by decide +kernel, by decide +kernel, by decide +kernel⟩
theorem cl_58 : (mt 58).2.2.1 ≤ 17 := by decide
theorem cz_59 : (mt 59).2.2.2.2 = [] := rfl
theorem cc_59 : Cond.code (mt 59).1 (mt 59).2.1 (mt 59).2.2.1 (mt 59).2.2.2.1 ∈ lw_g := mG 809 (by decide +kernel) rfl
theorem ci_59 : Cond.initialized (mt 59).1.cls ∈ lw_g := w_43
theorem cm_59 : Cond.instanceMethod (mt 59).1 ∈ lw_g := w_807
theorem cs_59 : Cond.selects (mt 59).1.cls (mt 59).1 (mt 59).1 ∈ lw_g := w_808
theorem cd_59 : (mt 59).1.cls ≠ "java/lang/invoke/MethodHandle" ∧ (mt 59).1.cls ≠ "java/lang/invoke/VarHandle" ∧ (parseMethodDescriptor (mt 59).1.desc).map (fun d => d.parameters.length) = some 0 := ⟨by decide +kernel, by decide +kernel, by decide +kernel⟩
theorem cl_59 : (mt 59).2.2.1 ≤ 17 := by decide
theorem cz_60 : (mt 60).2.2.2.2 = [] := rfl
theorem cc_60 : Cond.code (mt 60).1 (mt 60).2.1 (mt 60).2.2.1 (mt 60).2.2.2.1 ∈ lw_g := mG 813 (by decide +kernel) rfl
theorem ci_60 : Cond.initialized (mt 60).1.cls ∈ lw_g := w_43
theorem cm_60 : Cond.instanceMethod (mt 60).1 ∈ lw_g := w_811
theorem cs_60 : Cond.selects (mt 60).1.cls (mt 60).1 (mt 60).1 ∈ lw_g := w_812
theorem cd_60 : (mt 60).1.cls ≠ "java/lang/invoke/MethodHandle" ∧ (mt 60).1.cls ≠ "java/lang/invoke/VarHandle" ∧ (parseMethodDescriptor (mt 60).1.desc).map (fun d => d.parameters.length) = some 0 := ⟨by decide +kernel, by decide +kernel, by decide +kernel⟩
theorem cl_60 : (mt 60).2.2.1 ≤ 17 := by decide
theorem cz_61 : (mt 61).2.2.2.2 = [] := rfl
theorem cc_61 : Cond.code (mt 61).1 (mt 61).2.1 (mt 61).2.2.1 (mt 61).2.2.2.1 ∈ lw_g := mG 817 (by decide +kernel) rfl
theorem ci_61 : Cond.initialized (mt 61).1.cls ∈ lw_g := w_43
theorem cm_61 : Cond.instanceMethod (mt 61).1 ∈ lw_g := w_815
theorem cs_61 : Cond.selects (mt 61).1.cls (mt 61).1 (mt 61).1 ∈ lw_g := w_816
theorem cd_61 : (mt 61).1.cls ≠ "java/lang/invoke/MethodHandle" ∧ (mt 61).1.cls ≠ "java/lang/invoke/VarHandle" ∧ (parseMethodDescriptor (mt 61).1.desc).map (fun d => d.parameters.length) = some 0 := ⟨by decide +kernel, by decide +kernel, by decide +kernel⟩
theorem cl_61 : (mt 61).2.2.1 ≤ 17 := by decide
theorem cz_62 : (mt 62).2.2.2.2 = [] := rfl
theorem cc_62 : Cond.code (mt 62).1 (mt 62).2.1 (mt 62).2.2.1 (mt 62).2.2.2.1 ∈ lw_g := mG 671 (by decide +kernel) rfl
theorem ci_62 : Cond.initialized (mt 62).1.cls ∈ lw_g := w_43
theorem cm_62 : Cond.instanceMethod (mt 62).1 ∈ lw_g := w_669
theorem cs_62 : Cond.selects (mt 62).1.cls (mt 62).1 (mt 62).1 ∈ lw_g := w_670
theorem cd_62 : (mt 62).1.cls ≠ "java/lang/invoke/MethodHandle" ∧ (mt 62).1.cls ≠ "java/lang/invoke/VarHandle" ∧ (parseMethodDescriptor (mt 62).1.desc).map (fun d => d.parameters.length) = some 2 := ⟨by decide +kernel, by decide +kernel, by decide +kernel⟩
theorem cl_62 : (mt 62).2.2.1 ≤ 17 := by decide
theorem cz_63 : (mt 63).2.2.2.2 = [] := rfl
theorem cc_63 : Cond.code (mt 63).1 (mt 63).2.1 (mt 63).2.2.1 (mt 63).2.2.2.1 ∈ lw_g := mG 705 (by decide +kernel) rfl
theorem ci_63 : Cond.initialized (mt 63).1.cls ∈ lw_g := w_43
theorem cm_63 : Cond.instanceMethod (mt 63).1 ∈ lw_g := w_704
theorem cs_63 : Cond.selects (mt 63).1.cls (mt 63).1 (mt 63).1 ∈ lw_g := w_25
theorem cd_63 : (mt 63).1.cls ≠ "java/lang/invoke/MethodHandle" ∧ (mt 63).1.cls ≠ "java/lang/invoke/VarHandle" ∧ (parseMethodDescriptor (mt 63).1.desc).map (fun d => d.parameters.length) = some 1 := ⟨by decide +kernel, by decide +kernel, by decide +kernel⟩
theorem cl_63 : (mt 63).2.2.1 ≤ 17 := by decide
theorem cz_64 : (mt 64).2.2.2.2 = [] := rfl
theorem cc_64 : Cond.code (mt 64).1 (mt 64).2.1 (mt 64).2.2.1 (mt 64).2.2.2.1 ∈ lw_g := mG 761 (by decide +kernel) rfl
theorem ci_64 : Cond.initialized (mt 64).1.cls ∈ lw_g := w_43
theorem cm_64 : Cond.instanceMethod (mt 64).1 ∈ lw_g := w_760
theorem cs_64 : Cond.selects (mt 64).1.cls (mt 64).1 (mt 64).1 ∈ lw_g := w_29
theorem cd_64 : (mt 64).1.cls ≠ "java/lang/invoke/MethodHandle" ∧ (mt 64).1.cls ≠ "java/lang/invoke/VarHandle" ∧ (parseMethodDescriptor (mt 64).1.desc).map (fun d => d.parameters.length) = some 0 := ⟨by decide +kernel, by decide +kernel, by decide +kernel⟩
theorem cl_64 : (mt 64).2.2.1 ≤ 17 := by decide
theorem cz_65 : (mt 65).2.2.2.2 = [] := rfl
theorem cc_65 : Cond.code (mt 65).1 (mt 65).2.1 (mt 65).2.2.1 (mt 65).2.2.2.1 ∈ lw_g := mG 701 (by decide +kernel) rfl
theorem ci_65 : Cond.initialized (mt 65).1.cls ∈ lw_g := w_43
theorem cm_65 : Cond.instanceMethod (mt 65).1 ∈ lw_g := w_699
theorem cs_65 : Cond.selects (mt 65).1.cls (mt 65).1 (mt 65).1 ∈ lw_g := w_24
theorem cd_65 : (mt 65).1.cls ≠ "java/lang/invoke/MethodHandle" ∧ (mt 65).1.cls ≠ "java/lang/invoke/VarHandle" ∧ (parseMethodDescriptor (mt 65).1.desc).map (fun d => d.parameters.length) = some 1 := ⟨by decide +kernel, by decide +kernel, by decide +kernel⟩
theorem cl_65 : (mt 65).2.2.1 ≤ 17 := by decide
theorem cz_66 : (mt 66).2.2.2.2 = [] := rfl
theorem cc_66 : Cond.code (mt 66).1 (mt 66).2.1 (mt 66).2.2.1 (mt 66).2.2.2.1 ∈ lw_g := mG 695 (by decide +kernel) rfl
theorem ci_66 : Cond.initialized (mt 66).1.cls ∈ lw_g := w_43
theorem cm_66 : Cond.instanceMethod (mt 66).1 ∈ lw_g := w_693
theorem cs_66 : Cond.selects (mt 66).1.cls (mt 66).1 (mt 66).1 ∈ lw_g := w_694
theorem cd_66 : (mt 66).1.cls ≠ "java/lang/invoke/MethodHandle" ∧ (mt 66).1.cls ≠ "java/lang/invoke/VarHandle" ∧ (parseMethodDescriptor (mt 66).1.desc).map (fun d => d.parameters.length) = some 2 := ⟨by decide +kernel, by decide +kernel, by decide +kernel⟩
theorem cl_66 : (mt 66).2.2.1 ≤ 17 := by decide
theorem cz_67 : (mt 67).2.2.2.2 = [] := rfl
theorem cc_67 : Cond.code (mt 67).1 (mt 67).2.1 (mt 67).2.2.1 (mt 67).2.2.2.1 ∈ lw_g := mG 718 (by decide +kernel) rfl
theorem ci_67 : Cond.initialized (mt 67).1.cls ∈ lw_g := w_43
theorem cm_67 : Cond.instanceMethod (mt 67).1 ∈ lw_g := w_717
theorem cs_67 : Cond.selects (mt 67).1.cls (mt 67).1 (mt 67).1 ∈ lw_g := w_26
theorem cd_67 : (mt 67).1.cls ≠ "java/lang/invoke/MethodHandle" ∧ (mt 67).1.cls ≠ "java/lang/invoke/VarHandle" ∧ (parseMethodDescriptor (mt 67).1.desc).map (fun d => d.parameters.length) = some 1 := ⟨by decide +kernel, by decide +kernel, by decide +kernel⟩
theorem cl_67 : (mt 67).2.2.1 ≤ 17 := by decide
theorem cz_68 : (mt 68).2.2.2.2 = [] := rfl
theorem cc_68 : Cond.code (mt 68).1 (mt 68).2.1 (mt 68).2.2.1 (mt 68).2.2.2.1 ∈ lw_g := mG 724 (by decide +kernel) rfl
theorem ci_68 : Cond.initialized (mt 68).1.cls ∈ lw_g := w_43
theorem cm_68 : Cond.instanceMethod (mt 68).1 ∈ lw_g := w_723
theorem cs_68 : Cond.selects (mt 68).1.cls (mt 68).1 (mt 68).1 ∈ lw_g := w_27
theorem cd_68 : (mt 68).1.cls ≠ "java/lang/invoke/MethodHandle" ∧ (mt 68).1.cls ≠ "java/lang/invoke/VarHandle" ∧ (parseMethodDescriptor (mt 68).1.desc).map (fun d => d.parameters.length) = some 1 := ⟨by decide +kernel, by decide +kernel, by decide +kernel⟩
theorem cl_68 : (mt 68).2.2.1 ≤ 17 := by decide
theorem cz_69 : (mt 69).2.2.2.2 = [] := rfl
theorem cc_69 : Cond.code (mt 69).1 (mt 69).2.1 (mt 69).2.2.1 (mt 69).2.2.2.1 ∈ lw_g := mG 735 (by decide +kernel) rfl
theorem ci_69 : Cond.initialized (mt 69).1.cls ∈ lw_g := w_43
theorem cm_69 : Cond.instanceMethod (mt 69).1 ∈ lw_g := w_734
theorem cs_69 : Cond.selects (mt 69).1.cls (mt 69).1 (mt 69).1 ∈ lw_g := w_28
theorem cd_69 : (mt 69).1.cls ≠ "java/lang/invoke/MethodHandle" ∧ (mt 69).1.cls ≠ "java/lang/invoke/VarHandle" ∧ (parseMethodDescriptor (mt 69).1.desc).map (fun d => d.parameters.length) = some 2 := ⟨by decide +kernel, by decide +kernel, by decide +kernel⟩
theorem cl_69 : (mt 69).2.2.1 ≤ 17 := by decide
theorem cz_70 : (mt 70).2.2.2.2 = [] := rfl
theorem cc_70 : Cond.code (mt 70).1 (mt 70).2.1 (mt 70).2.2.1 (mt 70).2.2.2.1 ∈ lw_g := mG 738 (by decide +kernel) rfl
theorem ci_70 : Cond.initialized (mt 70).1.cls ∈ lw_g := w_43
theorem cm_70 : Cond.static (mt 70).1 ∈ lw_g := w_737
theorem cd_70 : (mt 70).1.cls ≠ "java/lang/invoke/MethodHandle" ∧ (mt 70).1.cls ≠ "java/lang/invoke/VarHandle" ∧ (parseMethodDescriptor (mt 70).1.desc).map (fun d => d.parameters.length) = some 1 := ⟨by decide +kernel, by decide +kernel, by decide +kernel⟩
theorem cl_70 : (mt 70).2.2.1 ≤ 17 := by decide
theorem cz_71 : (mt 71).2.2.2.2 = [] := rfl
theorem cc_71 : Cond.code (mt 71).1 (mt 71).2.1 (mt 71).2.2.1 (mt 71).2.2.2.1 ∈ lw_g := mG 752 (by decide +kernel) rfl
theorem ci_71 : Cond.initialized (mt 71).1.cls ∈ lw_g := w_43
theorem cm_71 : Cond.instanceMethod (mt 71).1 ∈ lw_g := w_750
theorem cs_71 : Cond.selects (mt 71).1.cls (mt 71).1 (mt 71).1 ∈ lw_g := w_751
theorem cd_71 : (mt 71).1.cls ≠ "java/lang/invoke/MethodHandle" ∧ (mt 71).1.cls ≠ "java/lang/invoke/VarHandle" ∧ (parseMethodDescriptor (mt 71).1.desc).map (fun d => d.parameters.length) = some 1 := ⟨by decide +kernel, by decide +kernel, by decide +kernel⟩
theorem cl_71 : (mt 71).2.2.1 ≤ 17 := by decide
theorem cz_72 : (mt 72).2.2.2.2 = [] := rfl
theorem cc_72 : Cond.code (mt 72).1 (mt 72).2.1 (mt 72).2.2.1 (mt 72).2.2.2.1 ∈ lw_g := mG 756 (by decide +kernel) rfl
theorem ci_72 : Cond.initialized (mt 72).1.cls ∈ lw_g := w_43
theorem cm_72 : Cond.instanceMethod (mt 72).1 ∈ lw_g := w_754
theorem cs_72 : Cond.selects (mt 72).1.cls (mt 72).1 (mt 72).1 ∈ lw_g := w_755
theorem cd_72 : (mt 72).1.cls ≠ "java/lang/invoke/MethodHandle" ∧ (mt 72).1.cls ≠ "java/lang/invoke/VarHandle" ∧ (parseMethodDescriptor (mt 72).1.desc).map (fun d => d.parameters.length) = some 1 := ⟨by decide +kernel, by decide +kernel, by decide +kernel⟩
theorem cl_72 : (mt 72).2.2.1 ≤ 17 := by decide
theorem cz_73 : (mt 73).2.2.2.2 = [] := rfl
theorem cc_73 : Cond.code (mt 73).1 (mt 73).2.1 (mt 73).2.2.1 (mt 73).2.2.2.1 ∈ lw_g := mG 765 (by decide +kernel) rfl
theorem ci_73 : Cond.initialized (mt 73).1.cls ∈ lw_g := w_43
theorem cm_73 : Cond.instanceMethod (mt 73).1 ∈ lw_g := w_764
theorem cs_73 : Cond.selects (mt 73).1.cls (mt 73).1 (mt 73).1 ∈ lw_g := w_30
theorem cd_73 : (mt 73).1.cls ≠ "java/lang/invoke/MethodHandle" ∧ (mt 73).1.cls ≠ "java/lang/invoke/VarHandle" ∧ (parseMethodDescriptor (mt 73).1.desc).map (fun d => d.parameters.length) = some 1 := ⟨by decide +kernel, by decide +kernel, by decide +kernel⟩
theorem cl_73 : (mt 73).2.2.1 ≤ 17 := by decide
theorem cz_74 : (mt 74).2.2.2.2 = [] := rfl
theorem cc_74 : Cond.code (mt 74).1 (mt 74).2.1 (mt 74).2.2.1 (mt 74).2.2.2.1 ∈ lw_g := mG 768 (by decide +kernel) rfl
theorem ci_74 : Cond.initialized (mt 74).1.cls ∈ lw_g := w_43
theorem cm_74 : Cond.static (mt 74).1 ∈ lw_g := w_767
theorem cd_74 : (mt 74).1.cls ≠ "java/lang/invoke/MethodHandle" ∧ (mt 74).1.cls ≠ "java/lang/invoke/VarHandle" ∧ (parseMethodDescriptor (mt 74).1.desc).map (fun d => d.parameters.length) = some 3 := ⟨by decide +kernel, by decide +kernel, by decide +kernel⟩
theorem cl_74 : (mt 74).2.2.1 ≤ 17 := by decide
theorem cz_75 : (mt 75).2.2.2.2 = [] := rfl
theorem cc_75 : Cond.code (mt 75).1 (mt 75).2.1 (mt 75).2.2.1 (mt 75).2.2.2.1 ∈ lw_g := mG 934 (by decide +kernel) rfl
theorem ci_75 : Cond.initialized (mt 75).1.cls ∈ lw_g := w_43
theorem cm_75 : Cond.instanceMethod (mt 75).1 ∈ lw_g := w_932
theorem cs_75 : Cond.selects (mt 75).1.cls (mt 75).1 (mt 75).1 ∈ lw_g := w_933
theorem cd_75 : (mt 75).1.cls ≠ "java/lang/invoke/MethodHandle" ∧ (mt 75).1.cls ≠ "java/lang/invoke/VarHandle" ∧ (parseMethodDescriptor (mt 75).1.desc).map (fun d => d.parameters.length) = some 2 := ⟨by decide +kernel, by decide +kernel, by decide +kernel⟩
theorem cl_75 : (mt 75).2.2.1 ≤ 17 := by decide
theorem cz_76 : (mt 76).2.2.2.2 = [] := rfl
theorem cc_76 : Cond.code (mt 76).1 (mt 76).2.1 (mt 76).2.2.1 (mt 76).2.2.2.1 ∈ lw_g := mG 1114 (by decide +kernel) rfl
theorem ci_76 : Cond.initialized (mt 76).1.cls ∈ lw_g := w_45
theorem cm_76 : Cond.instanceMethod (mt 76).1 ∈ lw_g := w_1113
theorem cd_76 : (mt 76).1.cls ≠ "java/lang/invoke/MethodHandle" ∧ (mt 76).1.cls ≠ "java/lang/invoke/VarHandle" ∧ (parseMethodDescriptor (mt 76).1.desc).map (fun d => d.parameters.length) = some 3 := ⟨by decide +kernel, by decide +kernel, by decide +kernel⟩
theorem cl_76 : (mt 76).2.2.1 ≤ 17 := by decide
theorem cz_77 : (mt 77).2.2.2.2 = [] := rfl
theorem cc_77 : Cond.code (mt 77).1 (mt 77).2.1 (mt 77).2.2.1 (mt 77).2.2.2.1 ∈ lw_g := mG 662 (by decide +kernel) rfl
theorem ci_77 : Cond.initialized (mt 77).1.cls ∈ lw_g := w_45
theorem cm_77 : Cond.instanceMethod (mt 77).1 ∈ lw_g := w_660
theorem cs_77 : Cond.selects (mt 77).1.cls (mt 77).1 (mt 77).1 ∈ lw_g := w_661
theorem cd_77 : (mt 77).1.cls ≠ "java/lang/invoke/MethodHandle" ∧ (mt 77).1.cls ≠ "java/lang/invoke/VarHandle" ∧ (parseMethodDescriptor (mt 77).1.desc).map (fun d => d.parameters.length) = some 0 := ⟨by decide +kernel, by decide +kernel, by decide +kernel⟩
theorem cl_77 : (mt 77).2.2.1 ≤ 17 := by decide
theorem cz_78 : (mt 78).2.2.2.2 = [] := rfl
theorem cc_78 : Cond.code (mt 78).1 (mt 78).2.1 (mt 78).2.2.1 (mt 78).2.2.2.1 ∈ lw_g := mG 666 (by decide +kernel) rfl
theorem ci_78 : Cond.initialized (mt 78).1.cls ∈ lw_g := w_45
theorem cm_78 : Cond.instanceMethod (mt 78).1 ∈ lw_g := w_664
theorem cs_78 : Cond.selects (mt 78).1.cls (mt 78).1 (mt 78).1 ∈ lw_g := w_665
theorem cd_78 : (mt 78).1.cls ≠ "java/lang/invoke/MethodHandle" ∧ (mt 78).1.cls ≠ "java/lang/invoke/VarHandle" ∧ (parseMethodDescriptor (mt 78).1.desc).map (fun d => d.parameters.length) = some 0 := ⟨by decide +kernel, by decide +kernel, by decide +kernel⟩
theorem cl_78 : (mt 78).2.2.1 ≤ 17 := by decide
theorem cz_79 : (mt 79).2.2.2.2 = [] := rfl
theorem cc_79 : Cond.code (mt 79).1 (mt 79).2.1 (mt 79).2.2.1 (mt 79).2.2.2.1 ∈ lw_g := mG 944 (by decide +kernel) rfl
theorem ci_79 : Cond.initialized (mt 79).1.cls ∈ lw_g := w_45
theorem cm_79 : Cond.instanceMethod (mt 79).1 ∈ lw_g := w_942
theorem cs_79 : Cond.selects (mt 79).1.cls (mt 79).1 (mt 79).1 ∈ lw_g := w_943
theorem cd_79 : (mt 79).1.cls ≠ "java/lang/invoke/MethodHandle" ∧ (mt 79).1.cls ≠ "java/lang/invoke/VarHandle" ∧ (parseMethodDescriptor (mt 79).1.desc).map (fun d => d.parameters.length) = some 0 := ⟨by decide +kernel, by decide +kernel, by decide +kernel⟩
theorem cl_79 : (mt 79).2.2.1 ≤ 17 := by decide
theorem cz_80 : (mt 80).2.2.2.2 = [] := rfl
theorem cc_80 : Cond.code (mt 80).1 (mt 80).2.1 (mt 80).2.2.1 (mt 80).2.2.2.1 ∈ lw_g := mG 265 (by decide +kernel) rfl
theorem ci_80 : Cond.initialized (mt 80).1.cls ∈ lw_g := w_45
theorem cm_80 : Cond.instanceMethod (mt 80).1 ∈ lw_g := w_263
theorem cs_80 : Cond.selects (mt 80).1.cls (mt 80).1 (mt 80).1 ∈ lw_g := w_264
theorem cd_80 : (mt 80).1.cls ≠ "java/lang/invoke/MethodHandle" ∧ (mt 80).1.cls ≠ "java/lang/invoke/VarHandle" ∧ (parseMethodDescriptor (mt 80).1.desc).map (fun d => d.parameters.length) = some 5 := ⟨by decide +kernel, by decide +kernel, by decide +kernel⟩
theorem cl_80 : (mt 80).2.2.1 ≤ 17 := by decide
theorem cz_81 : (mt 81).2.2.2.2 = [] := rfl
theorem cc_81 : Cond.code (mt 81).1 (mt 81).2.1 (mt 81).2.2.1 (mt 81).2.2.2.1 ∈ lw_g := mG 541 (by decide +kernel) rfl
theorem ci_81 : Cond.initialized (mt 81).1.cls ∈ lw_g := w_45
theorem cm_81 : Cond.instanceMethod (mt 81).1 ∈ lw_g := w_539
theorem cs_81 : Cond.selects (mt 81).1.cls (mt 81).1 (mt 81).1 ∈ lw_g := w_21
theorem cd_81 : (mt 81).1.cls ≠ "java/lang/invoke/MethodHandle" ∧ (mt 81).1.cls ≠ "java/lang/invoke/VarHandle" ∧ (parseMethodDescriptor (mt 81).1.desc).map (fun d => d.parameters.length) = some 1 := ⟨by decide +kernel, by decide +kernel, by decide +kernel⟩
theorem cl_81 : (mt 81).2.2.1 ≤ 17 := by decide
theorem cz_82 : (mt 82).2.2.2.2 = [] := rfl
theorem cc_82 : Cond.code (mt 82).1 (mt 82).2.1 (mt 82).2.2.1 (mt 82).2.2.2.1 ∈ lw_g := mG 568 (by decide +kernel) rfl
theorem ci_82 : Cond.initialized (mt 82).1.cls ∈ lw_g := w_45
theorem cm_82 : Cond.instanceMethod (mt 82).1 ∈ lw_g := w_567
theorem cs_82 : Cond.selects (mt 82).1.cls (mt 82).1 (mt 82).1 ∈ lw_g := w_22
theorem cd_82 : (mt 82).1.cls ≠ "java/lang/invoke/MethodHandle" ∧ (mt 82).1.cls ≠ "java/lang/invoke/VarHandle" ∧ (parseMethodDescriptor (mt 82).1.desc).map (fun d => d.parameters.length) = some 3 := ⟨by decide +kernel, by decide +kernel, by decide +kernel⟩
theorem cl_82 : (mt 82).2.2.1 ≤ 17 := by decide
theorem cz_83 : (mt 83).2.2.2.2 = [] := rfl
theorem cc_83 : Cond.code (mt 83).1 (mt 83).2.1 (mt 83).2.2.1 (mt 83).2.2.2.1 ∈ lw_g := mG 587 (by decide +kernel) rfl
theorem ci_83 : Cond.initialized (mt 83).1.cls ∈ lw_g := w_45
theorem cm_83 : Cond.instanceMethod (mt 83).1 ∈ lw_g := w_585
theorem cs_83 : Cond.selects (mt 83).1.cls (mt 83).1 (mt 83).1 ∈ lw_g := w_586
theorem cd_83 : (mt 83).1.cls ≠ "java/lang/invoke/MethodHandle" ∧ (mt 83).1.cls ≠ "java/lang/invoke/VarHandle" ∧ (parseMethodDescriptor (mt 83).1.desc).map (fun d => d.parameters.length) = some 1 := ⟨by decide +kernel, by decide +kernel, by decide +kernel⟩
theorem cl_83 : (mt 83).2.2.1 ≤ 17 := by decide
theorem cz_84 : (mt 84).2.2.2.2 = [] := rfl
theorem cc_84 : Cond.code (mt 84).1 (mt 84).2.1 (mt 84).2.2.1 (mt 84).2.2.2.1 ∈ lw_g := mG 604 (by decide +kernel) rfl
theorem ci_84 : Cond.initialized (mt 84).1.cls ∈ lw_g := w_45
theorem cm_84 : Cond.instanceMethod (mt 84).1 ∈ lw_g := w_603
theorem cs_84 : Cond.selects (mt 84).1.cls (mt 84).1 (mt 84).1 ∈ lw_g := w_23
theorem cd_84 : (mt 84).1.cls ≠ "java/lang/invoke/MethodHandle" ∧ (mt 84).1.cls ≠ "java/lang/invoke/VarHandle" ∧ (parseMethodDescriptor (mt 84).1.desc).map (fun d => d.parameters.length) = some 4 := ⟨by decide +kernel, by decide +kernel, by decide +kernel⟩
theorem cl_84 : (mt 84).2.2.1 ≤ 17 := by decide
theorem cz_85 : (mt 85).2.2.2.2 = [] := rfl
theorem cc_85 : Cond.code (mt 85).1 (mt 85).2.1 (mt 85).2.2.1 (mt 85).2.2.2.1 ∈ lw_g := mG 964 (by decide +kernel) rfl
theorem ci_85 : Cond.initialized (mt 85).1.cls ∈ lw_g := w_40
theorem cm_85 : Cond.instanceMethod (mt 85).1 ∈ lw_g := w_963
theorem cd_85 : (mt 85).1.cls ≠ "java/lang/invoke/MethodHandle" ∧ (mt 85).1.cls ≠ "java/lang/invoke/VarHandle" ∧ (parseMethodDescriptor (mt 85).1.desc).map (fun d => d.parameters.length) = some 0 := ⟨by decide +kernel, by decide +kernel, by decide +kernel⟩
theorem cl_85 : (mt 85).2.2.1 ≤ 17 := by decide
theorem cz_86 : (mt 86).2.2.2.2 = [] := rfl
theorem cc_86 : Cond.code (mt 86).1 (mt 86).2.1 (mt 86).2.2.1 (mt 86).2.2.2.1 ∈ lw_g := mG 803 (by decide +kernel) rfl
theorem ci_86 : Cond.initialized (mt 86).1.cls ∈ lw_g := w_40
theorem cm_86 : Cond.instanceMethod (mt 86).1 ∈ lw_g := w_801
theorem cs_86 : Cond.selects (mt 86).1.cls (mt 86).1 (mt 86).1 ∈ lw_g := w_802
theorem cd_86 : (mt 86).1.cls ≠ "java/lang/invoke/MethodHandle" ∧ (mt 86).1.cls ≠ "java/lang/invoke/VarHandle" ∧ (parseMethodDescriptor (mt 86).1.desc).map (fun d => d.parameters.length) = some 0 := ⟨by decide +kernel, by decide +kernel, by decide +kernel⟩
theorem cl_86 : (mt 86).2.2.1 ≤ 17 := by decide
theorem cz_87 : (mt 87).2.2.2.2 = [] := rfl
theorem cc_87 : Cond.code (mt 87).1 (mt 87).2.1 (mt 87).2.2.1 (mt 87).2.2.2.1 ∈ lw_g := mG 67 (by decide +kernel) rfl
theorem ci_87 : Cond.initialized (mt 87).1.cls ∈ lw_g := w_40
theorem cm_87 : Cond.instanceMethod (mt 87).1 ∈ lw_g := w_65
theorem cs_87 : Cond.selects (mt 87).1.cls (mt 87).1 (mt 87).1 ∈ lw_g := w_66
theorem cd_87 : (mt 87).1.cls ≠ "java/lang/invoke/MethodHandle" ∧ (mt 87).1.cls ≠ "java/lang/invoke/VarHandle" ∧ (parseMethodDescriptor (mt 87).1.desc).map (fun d => d.parameters.length) = some 0 := ⟨by decide +kernel, by decide +kernel, by decide +kernel⟩
theorem cl_87 : (mt 87).2.2.1 ≤ 17 := by decide
theorem cz_88 : (mt 88).2.2.2.2 = [] := rfl
theorem cc_88 : Cond.code (mt 88).1 (mt 88).2.1 (mt 88).2.2.1 (mt 88).2.2.2.1 ∈ lw_g := mG 149 (by decide +kernel) rfl
theorem ci_88 : Cond.initialized (mt 88).1.cls ∈ lw_g := w_40
theorem cm_88 : Cond.instanceMethod (mt 88).1 ∈ lw_g := w_147
theorem cs_88 : Cond.selects (mt 88).1.cls (mt 88).1 (mt 88).1 ∈ lw_g := w_148
theorem cd_88 : (mt 88).1.cls ≠ "java/lang/invoke/MethodHandle" ∧ (mt 88).1.cls ≠ "java/lang/invoke/VarHandle" ∧ (parseMethodDescriptor (mt 88).1.desc).map (fun d => d.parameters.length) = some 1 := ⟨by decide +kernel, by decide +kernel, by decide +kernel⟩
theorem cl_88 : (mt 88).2.2.1 ≤ 17 := by decide
theorem cz_89 : (mt 89).2.2.2.2 = [] := rfl
theorem cc_89 : Cond.code (mt 89).1 (mt 89).2.1 (mt 89).2.2.1 (mt 89).2.2.2.1 ∈ lw_g := mG 1510 (by decide +kernel) rfl
theorem ci_89 : Cond.initialized (mt 89).1.cls ∈ lw_g := w_40
theorem cm_89 : Cond.instanceMethod (mt 89).1 ∈ lw_g := w_1508
theorem cs_89 : Cond.selects (mt 89).1.cls (mt 89).1 (mt 89).1 ∈ lw_g := w_1509
theorem cd_89 : (mt 89).1.cls ≠ "java/lang/invoke/MethodHandle" ∧ (mt 89).1.cls ≠ "java/lang/invoke/VarHandle" ∧ (parseMethodDescriptor (mt 89).1.desc).map (fun d => d.parameters.length) = some 1 := ⟨by decide +kernel, by decide +kernel, by decide +kernel⟩
theorem cl_89 : (mt 89).2.2.1 ≤ 17 := by decide
theorem cz_90 : (mt 90).2.2.2.2 = [] := rfl
theorem cc_90 : Cond.code (mt 90).1 (mt 90).2.1 (mt 90).2.2.1 (mt 90).2.2.2.1 ∈ lw_g := mG 141 (by decide +kernel) rfl
theorem ci_90 : Cond.initialized (mt 90).1.cls ∈ lw_g := w_40
theorem cm_90 : Cond.instanceMethod (mt 90).1 ∈ lw_g := w_139
theorem cs_90 : Cond.selects (mt 90).1.cls (mt 90).1 (mt 90).1 ∈ lw_g := w_140
theorem cd_90 : (mt 90).1.cls ≠ "java/lang/invoke/MethodHandle" ∧ (mt 90).1.cls ≠ "java/lang/invoke/VarHandle" ∧ (parseMethodDescriptor (mt 90).1.desc).map (fun d => d.parameters.length) = some 0 := ⟨by decide +kernel, by decide +kernel, by decide +kernel⟩
theorem cl_90 : (mt 90).2.2.1 ≤ 17 := by decide
theorem cz_91 : (mt 91).2.2.2.2 = [] := rfl
theorem cc_91 : Cond.code (mt 91).1 (mt 91).2.1 (mt 91).2.2.1 (mt 91).2.2.2.1 ∈ lw_g := mG 224 (by decide +kernel) rfl
theorem ci_91 : Cond.initialized (mt 91).1.cls ∈ lw_g := w_40
theorem cm_91 : Cond.instanceMethod (mt 91).1 ∈ lw_g := w_222
theorem cs_91 : Cond.selects (mt 91).1.cls (mt 91).1 (mt 91).1 ∈ lw_g := w_223
theorem cd_91 : (mt 91).1.cls ≠ "java/lang/invoke/MethodHandle" ∧ (mt 91).1.cls ≠ "java/lang/invoke/VarHandle" ∧ (parseMethodDescriptor (mt 91).1.desc).map (fun d => d.parameters.length) = some 1 := ⟨by decide +kernel, by decide +kernel, by decide +kernel⟩
theorem cl_91 : (mt 91).2.2.1 ≤ 17 := by decide
theorem cz_92 : (mt 92).2.2.2.2 = [] := rfl
theorem cc_92 : Cond.code (mt 92).1 (mt 92).2.1 (mt 92).2.2.1 (mt 92).2.2.2.1 ∈ lw_g := mG 317 (by decide +kernel) rfl
theorem ci_92 : Cond.initialized (mt 92).1.cls ∈ lw_g := w_40
theorem cm_92 : Cond.instanceMethod (mt 92).1 ∈ lw_g := w_315
theorem cs_92 : Cond.selects (mt 92).1.cls (mt 92).1 (mt 92).1 ∈ lw_g := w_316
theorem cd_92 : (mt 92).1.cls ≠ "java/lang/invoke/MethodHandle" ∧ (mt 92).1.cls ≠ "java/lang/invoke/VarHandle" ∧ (parseMethodDescriptor (mt 92).1.desc).map (fun d => d.parameters.length) = some 1 := ⟨by decide +kernel, by decide +kernel, by decide +kernel⟩
theorem cl_92 : (mt 92).2.2.1 ≤ 17 := by decide
theorem cz_93 : (mt 93).2.2.2.2 = [] := rfl
theorem cc_93 : Cond.code (mt 93).1 (mt 93).2.1 (mt 93).2.2.1 (mt 93).2.2.2.1 ∈ lw_g := mG 295 (by decide +kernel) rfl
theorem ci_93 : Cond.initialized (mt 93).1.cls ∈ lw_g := w_40
theorem cm_93 : Cond.instanceMethod (mt 93).1 ∈ lw_g := w_293
theorem cs_93 : Cond.selects (mt 93).1.cls (mt 93).1 (mt 93).1 ∈ lw_g := w_294
theorem cd_93 : (mt 93).1.cls ≠ "java/lang/invoke/MethodHandle" ∧ (mt 93).1.cls ≠ "java/lang/invoke/VarHandle" ∧ (parseMethodDescriptor (mt 93).1.desc).map (fun d => d.parameters.length) = some 1 := ⟨by decide +kernel, by decide +kernel, by decide +kernel⟩
theorem cl_93 : (mt 93).2.2.1 ≤ 17 := by decide
theorem cz_94 : (mt 94).2.2.2.2 = [] := rfl
theorem cc_94 : Cond.code (mt 94).1 (mt 94).2.1 (mt 94).2.2.1 (mt 94).2.2.2.1 ∈ lw_g := mG 1468 (by decide +kernel) rfl
theorem ci_94 : Cond.initialized (mt 94).1.cls ∈ lw_g := w_40
theorem cm_94 : Cond.instanceMethod (mt 94).1 ∈ lw_g := w_1466
theorem cs_94 : Cond.selects (mt 94).1.cls (mt 94).1 (mt 94).1 ∈ lw_g := w_1467
theorem cd_94 : (mt 94).1.cls ≠ "java/lang/invoke/MethodHandle" ∧ (mt 94).1.cls ≠ "java/lang/invoke/VarHandle" ∧ (parseMethodDescriptor (mt 94).1.desc).map (fun d => d.parameters.length) = some 2 := ⟨by decide +kernel, by decide +kernel, by decide +kernel⟩
theorem cl_94 : (mt 94).2.2.1 ≤ 17 := by decide
theorem cz_95 : (mt 95).2.2.2.2 = [] := rfl
theorem cc_95 : Cond.code (mt 95).1 (mt 95).2.1 (mt 95).2.2.1 (mt 95).2.2.2.1 ∈ lw_g := mG 220 (by decide +kernel) rfl
theorem ci_95 : Cond.initialized (mt 95).1.cls ∈ lw_g := w_40
theorem cm_95 : Cond.instanceMethod (mt 95).1 ∈ lw_g := w_218
theorem cs_95 : Cond.selects (mt 95).1.cls (mt 95).1 (mt 95).1 ∈ lw_g := w_219
theorem cd_95 : (mt 95).1.cls ≠ "java/lang/invoke/MethodHandle" ∧ (mt 95).1.cls ≠ "java/lang/invoke/VarHandle" ∧ (parseMethodDescriptor (mt 95).1.desc).map (fun d => d.parameters.length) = some 5 := ⟨by decide +kernel, by decide +kernel, by decide +kernel⟩
theorem cl_95 : (mt 95).2.2.1 ≤ 17 := by decide
theorem cz_96 : (mt 96).2.2.2.2 = [] := rfl
theorem cc_96 : Cond.code (mt 96).1 (mt 96).2.1 (mt 96).2.2.1 (mt 96).2.2.2.1 ∈ lw_g := mG 1490 (by decide +kernel) rfl
theorem ci_96 : Cond.initialized (mt 96).1.cls ∈ lw_g := w_40
theorem cm_96 : Cond.instanceMethod (mt 96).1 ∈ lw_g := w_1488
theorem cs_96 : Cond.selects (mt 96).1.cls (mt 96).1 (mt 96).1 ∈ lw_g := w_1489
theorem cd_96 : (mt 96).1.cls ≠ "java/lang/invoke/MethodHandle" ∧ (mt 96).1.cls ≠ "java/lang/invoke/VarHandle" ∧ (parseMethodDescriptor (mt 96).1.desc).map (fun d => d.parameters.length) = some 2 := ⟨by decide +kernel, by decide +kernel, by decide +kernel⟩
theorem cl_96 : (mt 96).2.2.1 ≤ 17 := by decide
theorem cz_97 : (mt 97).2.2.2.2 = [] := rfl
theorem cc_97 : Cond.code (mt 97).1 (mt 97).2.1 (mt 97).2.2.1 (mt 97).2.2.2.1 ∈ lw_g := mG 216 (by decide +kernel) rfl
theorem ci_97 : Cond.initialized (mt 97).1.cls ∈ lw_g := w_40
theorem cm_97 : Cond.instanceMethod (mt 97).1 ∈ lw_g := w_214
theorem cs_97 : Cond.selects (mt 97).1.cls (mt 97).1 (mt 97).1 ∈ lw_g := w_215
theorem cd_97 : (mt 97).1.cls ≠ "java/lang/invoke/MethodHandle" ∧ (mt 97).1.cls ≠ "java/lang/invoke/VarHandle" ∧ (parseMethodDescriptor (mt 97).1.desc).map (fun d => d.parameters.length) = some 4 := ⟨by decide +kernel, by decide +kernel, by decide +kernel⟩
theorem cl_97 : (mt 97).2.2.1 ≤ 17 := by decide
theorem cz_98 : (mt 98).2.2.2.2 = [] := rfl
theorem cc_98 : Cond.code (mt 98).1 (mt 98).2.1 (mt 98).2.2.1 (mt 98).2.2.2.1 ∈ lw_g := mG 206 (by decide +kernel) rfl
theorem ci_98 : Cond.initialized (mt 98).1.cls ∈ lw_g := w_40
theorem cm_98 : Cond.instanceMethod (mt 98).1 ∈ lw_g := w_204
theorem cs_98 : Cond.selects (mt 98).1.cls (mt 98).1 (mt 98).1 ∈ lw_g := w_205
theorem cd_98 : (mt 98).1.cls ≠ "java/lang/invoke/MethodHandle" ∧ (mt 98).1.cls ≠ "java/lang/invoke/VarHandle" ∧ (parseMethodDescriptor (mt 98).1.desc).map (fun d => d.parameters.length) = some 2 := ⟨by decide +kernel, by decide +kernel, by decide +kernel⟩
theorem cl_98 : (mt 98).2.2.1 ≤ 17 := by decide
theorem cz_99 : (mt 99).2.2.2.2 = [] := rfl
theorem cc_99 : Cond.code (mt 99).1 (mt 99).2.1 (mt 99).2.2.1 (mt 99).2.2.2.1 ∈ lw_g := mG 359 (by decide +kernel) rfl
theorem ci_99 : Cond.initialized (mt 99).1.cls ∈ lw_g := w_40
theorem cm_99 : Cond.instanceMethod (mt 99).1 ∈ lw_g := w_357
theorem cs_99 : Cond.selects (mt 99).1.cls (mt 99).1 (mt 99).1 ∈ lw_g := w_358
theorem cd_99 : (mt 99).1.cls ≠ "java/lang/invoke/MethodHandle" ∧ (mt 99).1.cls ≠ "java/lang/invoke/VarHandle" ∧ (parseMethodDescriptor (mt 99).1.desc).map (fun d => d.parameters.length) = some 2 := ⟨by decide +kernel, by decide +kernel, by decide +kernel⟩
theorem cl_99 : (mt 99).2.2.1 ≤ 17 := by decide
theorem cz_100 : (mt 100).2.2.2.2 = [] := rfl
theorem cc_100 : Cond.code (mt 100).1 (mt 100).2.1 (mt 100).2.2.1 (mt 100).2.2.2.1 ∈ lw_g := mG 363 (by decide +kernel) rfl
theorem ci_100 : Cond.initialized (mt 100).1.cls ∈ lw_g := w_40
theorem cm_100 : Cond.instanceMethod (mt 100).1 ∈ lw_g := w_361
theorem cs_100 : Cond.selects (mt 100).1.cls (mt 100).1 (mt 100).1 ∈ lw_g := w_362
theorem cd_100 : (mt 100).1.cls ≠ "java/lang/invoke/MethodHandle" ∧ (mt 100).1.cls ≠ "java/lang/invoke/VarHandle" ∧ (parseMethodDescriptor (mt 100).1.desc).map (fun d => d.parameters.length) = some 2 := ⟨by decide +kernel, by decide +kernel, by decide +kernel⟩
theorem cl_100 : (mt 100).2.2.1 ≤ 17 := by decide
theorem cz_101 : (mt 101).2.2.2.2 = [] := rfl
theorem cc_101 : Cond.code (mt 101).1 (mt 101).2.1 (mt 101).2.2.1 (mt 101).2.2.2.1 ∈ lw_g := mG 344 (by decide +kernel) rfl
theorem ci_101 : Cond.initialized (mt 101).1.cls ∈ lw_g := w_40
theorem cm_101 : Cond.instanceMethod (mt 101).1 ∈ lw_g := w_342
theorem cs_101 : Cond.selects (mt 101).1.cls (mt 101).1 (mt 101).1 ∈ lw_g := w_343
theorem cd_101 : (mt 101).1.cls ≠ "java/lang/invoke/MethodHandle" ∧ (mt 101).1.cls ≠ "java/lang/invoke/VarHandle" ∧ (parseMethodDescriptor (mt 101).1.desc).map (fun d => d.parameters.length) = some 2 := ⟨by decide +kernel, by decide +kernel, by decide +kernel⟩
theorem cl_101 : (mt 101).2.2.1 ≤ 17 := by decide
theorem cz_102 : (mt 102).2.2.2.2 = [] := rfl
theorem cc_102 : Cond.code (mt 102).1 (mt 102).2.1 (mt 102).2.2.1 (mt 102).2.2.2.1 ∈ lw_g := mG 351 (by decide +kernel) rfl
theorem ci_102 : Cond.initialized (mt 102).1.cls ∈ lw_g := w_40
theorem cm_102 : Cond.instanceMethod (mt 102).1 ∈ lw_g := w_349
theorem cs_102 : Cond.selects (mt 102).1.cls (mt 102).1 (mt 102).1 ∈ lw_g := w_350
theorem cd_102 : (mt 102).1.cls ≠ "java/lang/invoke/MethodHandle" ∧ (mt 102).1.cls ≠ "java/lang/invoke/VarHandle" ∧ (parseMethodDescriptor (mt 102).1.desc).map (fun d => d.parameters.length) = some 2 := ⟨by decide +kernel, by decide +kernel, by decide +kernel⟩
theorem cl_102 : (mt 102).2.2.1 ≤ 17 := by decide
theorem cz_103 : (mt 103).2.2.2.2 = [] := rfl
theorem cc_103 : Cond.code (mt 103).1 (mt 103).2.1 (mt 103).2.2.1 (mt 103).2.2.2.1 ∈ lw_g := mG 367 (by decide +kernel) rfl
theorem ci_103 : Cond.initialized (mt 103).1.cls ∈ lw_g := w_40
theorem cm_103 : Cond.instanceMethod (mt 103).1 ∈ lw_g := w_365
theorem cs_103 : Cond.selects (mt 103).1.cls (mt 103).1 (mt 103).1 ∈ lw_g := w_366
theorem cd_103 : (mt 103).1.cls ≠ "java/lang/invoke/MethodHandle" ∧ (mt 103).1.cls ≠ "java/lang/invoke/VarHandle" ∧ (parseMethodDescriptor (mt 103).1.desc).map (fun d => d.parameters.length) = some 2 := ⟨by decide +kernel, by decide +kernel, by decide +kernel⟩
theorem cl_103 : (mt 103).2.2.1 ≤ 17 := by decide
theorem cz_104 : (mt 104).2.2.2.2 = [] := rfl
theorem cc_104 : Cond.code (mt 104).1 (mt 104).2.1 (mt 104).2.2.1 (mt 104).2.2.2.1 ∈ lw_g := mG 1195 (by decide +kernel) rfl
theorem ci_104 : Cond.initialized (mt 104).1.cls ∈ lw_g := w_49
theorem cm_104 : Cond.instanceMethod (mt 104).1 ∈ lw_g := w_1194
theorem cd_104 : (mt 104).1.cls ≠ "java/lang/invoke/MethodHandle" ∧ (mt 104).1.cls ≠ "java/lang/invoke/VarHandle" ∧ (parseMethodDescriptor (mt 104).1.desc).map (fun d => d.parameters.length) = some 3 := ⟨by decide +kernel, by decide +kernel, by decide +kernel⟩
theorem cl_104 : (mt 104).2.2.1 ≤ 17 := by decide
theorem cz_105 : (mt 105).2.2.2.2 = [] := rfl
theorem cc_105 : Cond.code (mt 105).1 (mt 105).2.1 (mt 105).2.2.1 (mt 105).2.2.2.1 ∈ lw_g := mG 464 (by decide +kernel) rfl
theorem ci_105 : Cond.initialized (mt 105).1.cls ∈ lw_g := w_49
theorem cm_105 : Cond.instanceMethod (mt 105).1 ∈ lw_g := w_462
theorem cs_105 : Cond.selects (mt 105).1.cls (mt 105).1 (mt 105).1 ∈ lw_g := w_463
theorem cd_105 : (mt 105).1.cls ≠ "java/lang/invoke/MethodHandle" ∧ (mt 105).1.cls ≠ "java/lang/invoke/VarHandle" ∧ (parseMethodDescriptor (mt 105).1.desc).map (fun d => d.parameters.length) = some 1 := ⟨by decide +kernel, by decide +kernel, by decide +kernel⟩
theorem cl_105 : (mt 105).2.2.1 ≤ 17 := by decide
theorem cz_106 : (mt 106).2.2.2.2 = [] := rfl
theorem cc_106 : Cond.code (mt 106).1 (mt 106).2.1 (mt 106).2.2.1 (mt 106).2.2.2.1 ∈ lw_g := mG 501 (by decide +kernel) rfl
theorem ci_106 : Cond.initialized (mt 106).1.cls ∈ lw_g := w_49
theorem cm_106 : Cond.instanceMethod (mt 106).1 ∈ lw_g := w_499
theorem cs_106 : Cond.selects (mt 106).1.cls (mt 106).1 (mt 106).1 ∈ lw_g := w_500
theorem cd_106 : (mt 106).1.cls ≠ "java/lang/invoke/MethodHandle" ∧ (mt 106).1.cls ≠ "java/lang/invoke/VarHandle" ∧ (parseMethodDescriptor (mt 106).1.desc).map (fun d => d.parameters.length) = some 1 := ⟨by decide +kernel, by decide +kernel, by decide +kernel⟩
theorem cl_106 : (mt 106).2.2.1 ≤ 17 := by decide
theorem cz_107 : (mt 107).2.2.2.2 = [] := rfl
theorem cc_107 : Cond.code (mt 107).1 (mt 107).2.1 (mt 107).2.2.1 (mt 107).2.2.2.1 ∈ lw_g := mG 822 (by decide +kernel) rfl
theorem ci_107 : Cond.initialized (mt 107).1.cls ∈ lw_g := w_49
theorem cm_107 : Cond.instanceMethod (mt 107).1 ∈ lw_g := w_820
theorem cs_107 : Cond.selects (mt 107).1.cls (mt 107).1 (mt 107).1 ∈ lw_g := w_821
theorem cd_107 : (mt 107).1.cls ≠ "java/lang/invoke/MethodHandle" ∧ (mt 107).1.cls ≠ "java/lang/invoke/VarHandle" ∧ (parseMethodDescriptor (mt 107).1.desc).map (fun d => d.parameters.length) = some 0 := ⟨by decide +kernel, by decide +kernel, by decide +kernel⟩
theorem cl_107 : (mt 107).2.2.1 ≤ 17 := by decide
theorem cz_108 : (mt 108).2.2.2.2 = [] := rfl
theorem cc_108 : Cond.code (mt 108).1 (mt 108).2.1 (mt 108).2.2.1 (mt 108).2.2.2.1 ∈ lw_g := mG 677 (by decide +kernel) rfl
theorem ci_108 : Cond.initialized (mt 108).1.cls ∈ lw_g := w_49
theorem cm_108 : Cond.instanceMethod (mt 108).1 ∈ lw_g := w_675
theorem cs_108 : Cond.selects (mt 108).1.cls (mt 108).1 (mt 108).1 ∈ lw_g := w_676
theorem cd_108 : (mt 108).1.cls ≠ "java/lang/invoke/MethodHandle" ∧ (mt 108).1.cls ≠ "java/lang/invoke/VarHandle" ∧ (parseMethodDescriptor (mt 108).1.desc).map (fun d => d.parameters.length) = some 0 := ⟨by decide +kernel, by decide +kernel, by decide +kernel⟩
theorem cl_108 : (mt 108).2.2.1 ≤ 17 := by decide
theorem cz_109 : (mt 109).2.2.2.2 = [] := rfl
theorem cc_109 : Cond.code (mt 109).1 (mt 109).2.1 (mt 109).2.2.1 (mt 109).2.2.2.1 ∈ lw_g := mG 573 (by decide +kernel) rfl
theorem ci_109 : Cond.initialized (mt 109).1.cls ∈ lw_g := w_49
theorem cm_109 : Cond.instanceMethod (mt 109).1 ∈ lw_g := w_571
theorem cs_109 : Cond.selects (mt 109).1.cls (mt 109).1 (mt 109).1 ∈ lw_g := w_572
theorem cd_109 : (mt 109).1.cls ≠ "java/lang/invoke/MethodHandle" ∧ (mt 109).1.cls ≠ "java/lang/invoke/VarHandle" ∧ (parseMethodDescriptor (mt 109).1.desc).map (fun d => d.parameters.length) = some 1 := ⟨by decide +kernel, by decide +kernel, by decide +kernel⟩
theorem cl_109 : (mt 109).2.2.1 ≤ 17 := by decide
theorem cz_110 : (mt 110).2.2.2.2 = [] := rfl
theorem cc_110 : Cond.code (mt 110).1 (mt 110).2.1 (mt 110).2.2.1 (mt 110).2.2.2.1 ∈ lw_g := mG 874 (by decide +kernel) rfl
theorem ci_110 : Cond.initialized (mt 110).1.cls ∈ lw_g := w_49
theorem cm_110 : Cond.instanceMethod (mt 110).1 ∈ lw_g := w_872
theorem cs_110 : Cond.selects (mt 110).1.cls (mt 110).1 (mt 110).1 ∈ lw_g := w_873
theorem cd_110 : (mt 110).1.cls ≠ "java/lang/invoke/MethodHandle" ∧ (mt 110).1.cls ≠ "java/lang/invoke/VarHandle" ∧ (parseMethodDescriptor (mt 110).1.desc).map (fun d => d.parameters.length) = some 1 := ⟨by decide +kernel, by decide +kernel, by decide +kernel⟩
theorem cl_110 : (mt 110).2.2.1 ≤ 17 := by decide
theorem cz_111 : (mt 111).2.2.2.2 = [] := rfl
theorem cc_111 : Cond.code (mt 111).1 (mt 111).2.1 (mt 111).2.2.1 (mt 111).2.2.2.1 ∈ lw_g := mG 371 (by decide +kernel) rfl
theorem ci_111 : Cond.initialized (mt 111).1.cls ∈ lw_g := w_49
theorem cm_111 : Cond.instanceMethod (mt 111).1 ∈ lw_g := w_369
theorem cs_111 : Cond.selects (mt 111).1.cls (mt 111).1 (mt 111).1 ∈ lw_g := w_370
theorem cd_111 : (mt 111).1.cls ≠ "java/lang/invoke/MethodHandle" ∧ (mt 111).1.cls ≠ "java/lang/invoke/VarHandle" ∧ (parseMethodDescriptor (mt 111).1.desc).map (fun d => d.parameters.length) = some 2 := ⟨by decide +kernel, by decide +kernel, by decide +kernel⟩
theorem cl_111 : (mt 111).2.2.1 ≤ 17 := by decide
theorem cz_112 : (mt 112).2.2.2.2 = [] := rfl
theorem cc_112 : Cond.code (mt 112).1 (mt 112).2.1 (mt 112).2.2.1 (mt 112).2.2.2.1 ∈ lw_g := mG 376 (by decide +kernel) rfl
theorem ci_112 : Cond.initialized (mt 112).1.cls ∈ lw_g := w_49
theorem cm_112 : Cond.instanceMethod (mt 112).1 ∈ lw_g := w_374
theorem cs_112 : Cond.selects (mt 112).1.cls (mt 112).1 (mt 112).1 ∈ lw_g := w_8
theorem cd_112 : (mt 112).1.cls ≠ "java/lang/invoke/MethodHandle" ∧ (mt 112).1.cls ≠ "java/lang/invoke/VarHandle" ∧ (parseMethodDescriptor (mt 112).1.desc).map (fun d => d.parameters.length) = some 0 := ⟨by decide +kernel, by decide +kernel, by decide +kernel⟩
theorem cl_112 : (mt 112).2.2.1 ≤ 17 := by decide
theorem cz_113 : (mt 113).2.2.2.2 = [] := rfl
theorem cc_113 : Cond.code (mt 113).1 (mt 113).2.1 (mt 113).2.2.1 (mt 113).2.2.2.1 ∈ lw_g := mG 426 (by decide +kernel) rfl
theorem ci_113 : Cond.initialized (mt 113).1.cls ∈ lw_g := w_49
theorem cm_113 : Cond.instanceMethod (mt 113).1 ∈ lw_g := w_425
theorem cs_113 : Cond.selects (mt 113).1.cls (mt 113).1 (mt 113).1 ∈ lw_g := w_11
theorem cd_113 : (mt 113).1.cls ≠ "java/lang/invoke/MethodHandle" ∧ (mt 113).1.cls ≠ "java/lang/invoke/VarHandle" ∧ (parseMethodDescriptor (mt 113).1.desc).map (fun d => d.parameters.length) = some 2 := ⟨by decide +kernel, by decide +kernel, by decide +kernel⟩
theorem cl_113 : (mt 113).2.2.1 ≤ 17 := by decide
theorem cz_114 : (mt 114).2.2.2.2 = [] := rfl
theorem cc_114 : Cond.code (mt 114).1 (mt 114).2.1 (mt 114).2.2.1 (mt 114).2.2.2.1 ∈ lw_g := mG 409 (by decide +kernel) rfl
theorem ci_114 : Cond.initialized (mt 114).1.cls ∈ lw_g := w_49
theorem cm_114 : Cond.instanceMethod (mt 114).1 ∈ lw_g := w_408
theorem cs_114 : Cond.selects (mt 114).1.cls (mt 114).1 (mt 114).1 ∈ lw_g := w_10
theorem cd_114 : (mt 114).1.cls ≠ "java/lang/invoke/MethodHandle" ∧ (mt 114).1.cls ≠ "java/lang/invoke/VarHandle" ∧ (parseMethodDescriptor (mt 114).1.desc).map (fun d => d.parameters.length) = some 1 := ⟨by decide +kernel, by decide +kernel, by decide +kernel⟩
theorem cl_114 : (mt 114).2.2.1 ≤ 17 := by decide
theorem cz_115 : (mt 115).2.2.2.2 = [] := rfl
theorem cc_115 : Cond.code (mt 115).1 (mt 115).2.1 (mt 115).2.2.1 (mt 115).2.2.2.1 ∈ lw_g := mG 403 (by decide +kernel) rfl
theorem ci_115 : Cond.initialized (mt 115).1.cls ∈ lw_g := w_49
theorem cm_115 : Cond.instanceMethod (mt 115).1 ∈ lw_g := w_402
theorem cs_115 : Cond.selects (mt 115).1.cls (mt 115).1 (mt 115).1 ∈ lw_g := w_9
theorem cd_115 : (mt 115).1.cls ≠ "java/lang/invoke/MethodHandle" ∧ (mt 115).1.cls ≠ "java/lang/invoke/VarHandle" ∧ (parseMethodDescriptor (mt 115).1.desc).map (fun d => d.parameters.length) = some 1 := ⟨by decide +kernel, by decide +kernel, by decide +kernel⟩
theorem cl_115 : (mt 115).2.2.1 ≤ 17 := by decide
theorem cz_116 : (mt 116).2.2.2.2 = [] := rfl
theorem cc_116 : Cond.code (mt 116).1 (mt 116).2.1 (mt 116).2.2.1 (mt 116).2.2.2.1 ∈ lw_g := mG 1000 (by decide +kernel) rfl
theorem ci_116 : Cond.initialized (mt 116).1.cls ∈ lw_g := w_41
theorem cm_116 : Cond.instanceMethod (mt 116).1 ∈ lw_g := w_999
theorem cd_116 : (mt 116).1.cls ≠ "java/lang/invoke/MethodHandle" ∧ (mt 116).1.cls ≠ "java/lang/invoke/VarHandle" ∧ (parseMethodDescriptor (mt 116).1.desc).map (fun d => d.parameters.length) = some 0 := ⟨by decide +kernel, by decide +kernel, by decide +kernel⟩
theorem cl_116 : (mt 116).2.2.1 ≤ 17 := by decide
theorem cz_117 : (mt 117).2.2.2.2 = [] := rfl
theorem cc_117 : Cond.code (mt 117).1 (mt 117).2.1 (mt 117).2.2.1 (mt 117).2.2.2.1 ∈ lw_g := mG 380 (by decide +kernel) rfl
theorem ci_117 : Cond.initialized (mt 117).1.cls ∈ lw_g := w_41
theorem cm_117 : Cond.instanceMethod (mt 117).1 ∈ lw_g := w_378
theorem cs_117 : Cond.selects (mt 117).1.cls (mt 117).1 (mt 117).1 ∈ lw_g := w_379
theorem cd_117 : (mt 117).1.cls ≠ "java/lang/invoke/MethodHandle" ∧ (mt 117).1.cls ≠ "java/lang/invoke/VarHandle" ∧ (parseMethodDescriptor (mt 117).1.desc).map (fun d => d.parameters.length) = some 0 := ⟨by decide +kernel, by decide +kernel, by decide +kernel⟩
theorem cl_117 : (mt 117).2.2.1 ≤ 17 := by decide
theorem cz_118 : (mt 118).2.2.2.2 = [] := rfl
theorem cc_118 : Cond.code (mt 118).1 (mt 118).2.1 (mt 118).2.2.1 (mt 118).2.2.2.1 ∈ lw_g := mG 188 (by decide +kernel) rfl
theorem ci_118 : Cond.initialized (mt 118).1.cls ∈ lw_g := w_41
theorem cm_118 : Cond.instanceMethod (mt 118).1 ∈ lw_g := w_186
theorem cs_118 : Cond.selects (mt 118).1.cls (mt 118).1 (mt 118).1 ∈ lw_g := w_187
theorem cd_118 : (mt 118).1.cls ≠ "java/lang/invoke/MethodHandle" ∧ (mt 118).1.cls ≠ "java/lang/invoke/VarHandle" ∧ (parseMethodDescriptor (mt 118).1.desc).map (fun d => d.parameters.length) = some 0 := ⟨by decide +kernel, by decide +kernel, by decide +kernel⟩
theorem cl_118 : (mt 118).2.2.1 ≤ 17 := by decide
theorem cz_119 : (mt 119).2.2.2.2 = [] := rfl
theorem cc_119 : Cond.code (mt 119).1 (mt 119).2.1 (mt 119).2.2.1 (mt 119).2.2.2.1 ∈ lw_g := mG 388 (by decide +kernel) rfl
theorem ci_119 : Cond.initialized (mt 119).1.cls ∈ lw_g := w_41
theorem cm_119 : Cond.instanceMethod (mt 119).1 ∈ lw_g := w_386
theorem cs_119 : Cond.selects (mt 119).1.cls (mt 119).1 (mt 119).1 ∈ lw_g := w_387
theorem cd_119 : (mt 119).1.cls ≠ "java/lang/invoke/MethodHandle" ∧ (mt 119).1.cls ≠ "java/lang/invoke/VarHandle" ∧ (parseMethodDescriptor (mt 119).1.desc).map (fun d => d.parameters.length) = some 1 := ⟨by decide +kernel, by decide +kernel, by decide +kernel⟩
theorem cl_119 : (mt 119).2.2.1 ≤ 17 := by decide
theorem cz_120 : (mt 120).2.2.2.2 = [] := rfl
theorem cc_120 : Cond.code (mt 120).1 (mt 120).2.1 (mt 120).2.2.1 (mt 120).2.2.2.1 ∈ lw_g := mG 193 (by decide +kernel) rfl
theorem ci_120 : Cond.initialized (mt 120).1.cls ∈ lw_g := w_41
theorem cm_120 : Cond.instanceMethod (mt 120).1 ∈ lw_g := w_191
theorem cs_120 : Cond.selects (mt 120).1.cls (mt 120).1 (mt 120).1 ∈ lw_g := w_192
theorem cd_120 : (mt 120).1.cls ≠ "java/lang/invoke/MethodHandle" ∧ (mt 120).1.cls ≠ "java/lang/invoke/VarHandle" ∧ (parseMethodDescriptor (mt 120).1.desc).map (fun d => d.parameters.length) = some 3 := ⟨by decide +kernel, by decide +kernel, by decide +kernel⟩
theorem cl_120 : (mt 120).2.2.1 ≤ 17 := by decide
theorem cz_121 : (mt 121).2.2.2.2 = [] := rfl
theorem cc_121 : Cond.code (mt 121).1 (mt 121).2.1 (mt 121).2.2.1 (mt 121).2.2.2.1 ∈ lw_g := mG 1448 (by decide +kernel) rfl
theorem ci_121 : Cond.initialized (mt 121).1.cls ∈ lw_g := w_41
theorem cm_121 : Cond.instanceMethod (mt 121).1 ∈ lw_g := w_1446
theorem cs_121 : Cond.selects (mt 121).1.cls (mt 121).1 (mt 121).1 ∈ lw_g := w_1447
theorem cd_121 : (mt 121).1.cls ≠ "java/lang/invoke/MethodHandle" ∧ (mt 121).1.cls ≠ "java/lang/invoke/VarHandle" ∧ (parseMethodDescriptor (mt 121).1.desc).map (fun d => d.parameters.length) = some 1 := ⟨by decide +kernel, by decide +kernel, by decide +kernel⟩
theorem cl_121 : (mt 121).2.2.1 ≤ 17 := by decide
theorem cz_122 : (mt 122).2.2.2.2 = [] := rfl
theorem cc_122 : Cond.code (mt 122).1 (mt 122).2.1 (mt 122).2.2.1 (mt 122).2.2.2.1 ∈ lw_g := mG 1454 (by decide +kernel) rfl
theorem ci_122 : Cond.initialized (mt 122).1.cls ∈ lw_g := w_41
theorem cm_122 : Cond.instanceMethod (mt 122).1 ∈ lw_g := w_1452
theorem cs_122 : Cond.selects (mt 122).1.cls (mt 122).1 (mt 122).1 ∈ lw_g := w_1453
theorem cd_122 : (mt 122).1.cls ≠ "java/lang/invoke/MethodHandle" ∧ (mt 122).1.cls ≠ "java/lang/invoke/VarHandle" ∧ (parseMethodDescriptor (mt 122).1.desc).map (fun d => d.parameters.length) = some 5 := ⟨by decide +kernel, by decide +kernel, by decide +kernel⟩
theorem cl_122 : (mt 122).2.2.1 ≤ 17 := by decide
theorem cz_123 : (mt 123).2.2.2.2 = [] := rfl
theorem cc_123 : Cond.code (mt 123).1 (mt 123).2.1 (mt 123).2.2.1 (mt 123).2.2.2.1 ∈ lw_g := mG 392 (by decide +kernel) rfl
theorem ci_123 : Cond.initialized (mt 123).1.cls ∈ lw_g := w_41
theorem cm_123 : Cond.instanceMethod (mt 123).1 ∈ lw_g := w_390
theorem cs_123 : Cond.selects (mt 123).1.cls (mt 123).1 (mt 123).1 ∈ lw_g := w_391
theorem cd_123 : (mt 123).1.cls ≠ "java/lang/invoke/MethodHandle" ∧ (mt 123).1.cls ≠ "java/lang/invoke/VarHandle" ∧ (parseMethodDescriptor (mt 123).1.desc).map (fun d => d.parameters.length) = some 1 := ⟨by decide +kernel, by decide +kernel, by decide +kernel⟩
theorem cl_123 : (mt 123).2.2.1 ≤ 17 := by decide
theorem cz_124 : (mt 124).2.2.2.2 = [] := rfl
theorem cc_124 : Cond.code (mt 124).1 (mt 124).2.1 (mt 124).2.2.1 (mt 124).2.2.2.1 ∈ lw_g := mG 482 (by decide +kernel) rfl
theorem ci_124 : Cond.initialized (mt 124).1.cls ∈ lw_g := w_41
theorem cm_124 : Cond.instanceMethod (mt 124).1 ∈ lw_g := w_480
theorem cs_124 : Cond.selects (mt 124).1.cls (mt 124).1 (mt 124).1 ∈ lw_g := w_481
theorem cd_124 : (mt 124).1.cls ≠ "java/lang/invoke/MethodHandle" ∧ (mt 124).1.cls ≠ "java/lang/invoke/VarHandle" ∧ (parseMethodDescriptor (mt 124).1.desc).map (fun d => d.parameters.length) = some 1 := ⟨by decide +kernel, by decide +kernel, by decide +kernel⟩
theorem cl_124 : (mt 124).2.2.1 ≤ 17 := by decide
theorem cz_125 : (mt 125).2.2.2.2 = [] := rfl
theorem cc_125 : Cond.code (mt 125).1 (mt 125).2.1 (mt 125).2.2.1 (mt 125).2.2.2.1 ∈ lw_g := mG 384 (by decide +kernel) rfl
theorem ci_125 : Cond.initialized (mt 125).1.cls ∈ lw_g := w_41
theorem cm_125 : Cond.instanceMethod (mt 125).1 ∈ lw_g := w_382
theorem cs_125 : Cond.selects (mt 125).1.cls (mt 125).1 (mt 125).1 ∈ lw_g := w_383
theorem cd_125 : (mt 125).1.cls ≠ "java/lang/invoke/MethodHandle" ∧ (mt 125).1.cls ≠ "java/lang/invoke/VarHandle" ∧ (parseMethodDescriptor (mt 125).1.desc).map (fun d => d.parameters.length) = some 1 := ⟨by decide +kernel, by decide +kernel, by decide +kernel⟩
theorem cl_125 : (mt 125).2.2.1 ≤ 17 := by decide
theorem cz_126 : (mt 126).2.2.2.2 = [] := rfl
theorem cc_126 : Cond.code (mt 126).1 (mt 126).2.1 (mt 126).2.2.1 (mt 126).2.2.2.1 ∈ lw_g := mG 430 (by decide +kernel) rfl
theorem ci_126 : Cond.initialized (mt 126).1.cls ∈ lw_g := w_41
theorem cm_126 : Cond.instanceMethod (mt 126).1 ∈ lw_g := w_428
theorem cs_126 : Cond.selects (mt 126).1.cls (mt 126).1 (mt 126).1 ∈ lw_g := w_429
theorem cd_126 : (mt 126).1.cls ≠ "java/lang/invoke/MethodHandle" ∧ (mt 126).1.cls ≠ "java/lang/invoke/VarHandle" ∧ (parseMethodDescriptor (mt 126).1.desc).map (fun d => d.parameters.length) = some 1 := ⟨by decide +kernel, by decide +kernel, by decide +kernel⟩
theorem cl_126 : (mt 126).2.2.1 ≤ 17 := by decide
theorem cz_127 : (mt 127).2.2.2.2 = [] := rfl
theorem cc_127 : Cond.code (mt 127).1 (mt 127).2.1 (mt 127).2.2.1 (mt 127).2.2.2.1 ∈ lw_g := mG 238 (by decide +kernel) rfl
theorem ci_127 : Cond.initialized (mt 127).1.cls ∈ lw_g := w_41
theorem cm_127 : Cond.instanceMethod (mt 127).1 ∈ lw_g := w_236
theorem cs_127 : Cond.selects (mt 127).1.cls (mt 127).1 (mt 127).1 ∈ lw_g := w_237
theorem cd_127 : (mt 127).1.cls ≠ "java/lang/invoke/MethodHandle" ∧ (mt 127).1.cls ≠ "java/lang/invoke/VarHandle" ∧ (parseMethodDescriptor (mt 127).1.desc).map (fun d => d.parameters.length) = some 1 := ⟨by decide +kernel, by decide +kernel, by decide +kernel⟩
theorem cl_127 : (mt 127).2.2.1 ≤ 17 := by decide
theorem cz_128 : (mt 128).2.2.2.2 = [] := rfl
theorem cc_128 : Cond.code (mt 128).1 (mt 128).2.1 (mt 128).2.2.1 (mt 128).2.2.2.1 ∈ lw_g := mG 439 (by decide +kernel) rfl
theorem ci_128 : Cond.initialized (mt 128).1.cls ∈ lw_g := w_41
theorem cm_128 : Cond.instanceMethod (mt 128).1 ∈ lw_g := w_437
theorem cs_128 : Cond.selects (mt 128).1.cls (mt 128).1 (mt 128).1 ∈ lw_g := w_12
theorem cd_128 : (mt 128).1.cls ≠ "java/lang/invoke/MethodHandle" ∧ (mt 128).1.cls ≠ "java/lang/invoke/VarHandle" ∧ (parseMethodDescriptor (mt 128).1.desc).map (fun d => d.parameters.length) = some 2 := ⟨by decide +kernel, by decide +kernel, by decide +kernel⟩
theorem cl_128 : (mt 128).2.2.1 ≤ 17 := by decide
theorem cz_129 : (mt 129).2.2.2.2 = [] := rfl
theorem cc_129 : Cond.code (mt 129).1 (mt 129).2.1 (mt 129).2.2.1 (mt 129).2.2.2.1 ∈ lw_g := mG 447 (by decide +kernel) rfl
theorem ci_129 : Cond.initialized (mt 129).1.cls ∈ lw_g := w_41
theorem cm_129 : Cond.instanceMethod (mt 129).1 ∈ lw_g := w_445
theorem cs_129 : Cond.selects (mt 129).1.cls (mt 129).1 (mt 129).1 ∈ lw_g := w_446
theorem cd_129 : (mt 129).1.cls ≠ "java/lang/invoke/MethodHandle" ∧ (mt 129).1.cls ≠ "java/lang/invoke/VarHandle" ∧ (parseMethodDescriptor (mt 129).1.desc).map (fun d => d.parameters.length) = some 2 := ⟨by decide +kernel, by decide +kernel, by decide +kernel⟩
theorem cl_129 : (mt 129).2.2.1 ≤ 17 := by decide
theorem cz_130 : (mt 130).2.2.2.2 = [] := rfl
theorem cc_130 : Cond.code (mt 130).1 (mt 130).2.1 (mt 130).2.2.1 (mt 130).2.2.2.1 ∈ lw_g := mG 443 (by decide +kernel) rfl
theorem ci_130 : Cond.initialized (mt 130).1.cls ∈ lw_g := w_41
theorem cm_130 : Cond.instanceMethod (mt 130).1 ∈ lw_g := w_441
theorem cs_130 : Cond.selects (mt 130).1.cls (mt 130).1 (mt 130).1 ∈ lw_g := w_442
theorem cd_130 : (mt 130).1.cls ≠ "java/lang/invoke/MethodHandle" ∧ (mt 130).1.cls ≠ "java/lang/invoke/VarHandle" ∧ (parseMethodDescriptor (mt 130).1.desc).map (fun d => d.parameters.length) = some 2 := ⟨by decide +kernel, by decide +kernel, by decide +kernel⟩
theorem cl_130 : (mt 130).2.2.1 ≤ 17 := by decide
theorem cz_131 : (mt 131).2.2.2.2 = [] := rfl
theorem cc_131 : Cond.code (mt 131).1 (mt 131).2.1 (mt 131).2.2.1 (mt 131).2.2.2.1 ∈ lw_g := mG 474 (by decide +kernel) rfl
theorem ci_131 : Cond.initialized (mt 131).1.cls ∈ lw_g := w_41
theorem cm_131 : Cond.instanceMethod (mt 131).1 ∈ lw_g := w_472
theorem cs_131 : Cond.selects (mt 131).1.cls (mt 131).1 (mt 131).1 ∈ lw_g := w_473
theorem cd_131 : (mt 131).1.cls ≠ "java/lang/invoke/MethodHandle" ∧ (mt 131).1.cls ≠ "java/lang/invoke/VarHandle" ∧ (parseMethodDescriptor (mt 131).1.desc).map (fun d => d.parameters.length) = some 2 := ⟨by decide +kernel, by decide +kernel, by decide +kernel⟩
theorem cl_131 : (mt 131).2.2.1 ≤ 17 := by decide
theorem cz_132 : (mt 132).2.2.2.2 = [] := rfl
theorem cc_132 : Cond.code (mt 132).1 (mt 132).2.1 (mt 132).2.2.1 (mt 132).2.2.2.1 ∈ lw_g := mG 434 (by decide +kernel) rfl
theorem ci_132 : Cond.initialized (mt 132).1.cls ∈ lw_g := w_41
theorem cm_132 : Cond.instanceMethod (mt 132).1 ∈ lw_g := w_432
theorem cs_132 : Cond.selects (mt 132).1.cls (mt 132).1 (mt 132).1 ∈ lw_g := w_433
theorem cd_132 : (mt 132).1.cls ≠ "java/lang/invoke/MethodHandle" ∧ (mt 132).1.cls ≠ "java/lang/invoke/VarHandle" ∧ (parseMethodDescriptor (mt 132).1.desc).map (fun d => d.parameters.length) = some 2 := ⟨by decide +kernel, by decide +kernel, by decide +kernel⟩
theorem cl_132 : (mt 132).2.2.1 ≤ 17 := by decide
theorem cz_133 : (mt 133).2.2.2.2 = [] := rfl
theorem cc_133 : Cond.code (mt 133).1 (mt 133).2.1 (mt 133).2.2.1 (mt 133).2.2.2.1 ∈ lw_g := mG 583 (by decide +kernel) rfl
theorem ci_133 : Cond.initialized (mt 133).1.cls ∈ lw_g := w_41
theorem cm_133 : Cond.instanceMethod (mt 133).1 ∈ lw_g := w_581
theorem cs_133 : Cond.selects (mt 133).1.cls (mt 133).1 (mt 133).1 ∈ lw_g := w_582
theorem cd_133 : (mt 133).1.cls ≠ "java/lang/invoke/MethodHandle" ∧ (mt 133).1.cls ≠ "java/lang/invoke/VarHandle" ∧ (parseMethodDescriptor (mt 133).1.desc).map (fun d => d.parameters.length) = some 2 := ⟨by decide +kernel, by decide +kernel, by decide +kernel⟩
theorem cl_133 : (mt 133).2.2.1 ≤ 17 := by decide
theorem cz_134 : (mt 134).2.2.2.2 = [] := rfl
theorem cc_134 : Cond.code (mt 134).1 (mt 134).2.1 (mt 134).2.2.1 (mt 134).2.2.2.1 ∈ lw_g := mG 577 (by decide +kernel) rfl
theorem ci_134 : Cond.initialized (mt 134).1.cls ∈ lw_g := w_41
theorem cm_134 : Cond.instanceMethod (mt 134).1 ∈ lw_g := w_575
theorem cs_134 : Cond.selects (mt 134).1.cls (mt 134).1 (mt 134).1 ∈ lw_g := w_576
theorem cd_134 : (mt 134).1.cls ≠ "java/lang/invoke/MethodHandle" ∧ (mt 134).1.cls ≠ "java/lang/invoke/VarHandle" ∧ (parseMethodDescriptor (mt 134).1.desc).map (fun d => d.parameters.length) = some 2 := ⟨by decide +kernel, by decide +kernel, by decide +kernel⟩
theorem cl_134 : (mt 134).2.2.1 ≤ 17 := by decide
theorem cz_135 : (mt 135).2.2.2.2 = [] := rfl
theorem cc_135 : Cond.code (mt 135).1 (mt 135).2.1 (mt 135).2.2.1 (mt 135).2.2.2.1 ∈ lw_g := mG 1159 (by decide +kernel) rfl
theorem ci_135 : Cond.initialized (mt 135).1.cls ∈ lw_g := w_48
theorem cm_135 : Cond.instanceMethod (mt 135).1 ∈ lw_g := w_1158
theorem cd_135 : (mt 135).1.cls ≠ "java/lang/invoke/MethodHandle" ∧ (mt 135).1.cls ≠ "java/lang/invoke/VarHandle" ∧ (parseMethodDescriptor (mt 135).1.desc).map (fun d => d.parameters.length) = some 2 := ⟨by decide +kernel, by decide +kernel, by decide +kernel⟩
theorem cl_135 : (mt 135).2.2.1 ≤ 17 := by decide
theorem cz_136 : (mt 136).2.2.2.2 = [] := rfl
theorem cc_136 : Cond.code (mt 136).1 (mt 136).2.1 (mt 136).2.2.1 (mt 136).2.2.2.1 ∈ lw_g := mG 326 (by decide +kernel) rfl
theorem ci_136 : Cond.initialized (mt 136).1.cls ∈ lw_g := w_48
theorem cm_136 : Cond.instanceMethod (mt 136).1 ∈ lw_g := w_324
theorem cs_136 : Cond.selects (mt 136).1.cls (mt 136).1 (mt 136).1 ∈ lw_g := w_5
theorem cd_136 : (mt 136).1.cls ≠ "java/lang/invoke/MethodHandle" ∧ (mt 136).1.cls ≠ "java/lang/invoke/VarHandle" ∧ (parseMethodDescriptor (mt 136).1.desc).map (fun d => d.parameters.length) = some 0 := ⟨by decide +kernel, by decide +kernel, by decide +kernel⟩
theorem cl_136 : (mt 136).2.2.1 ≤ 17 := by decide
theorem cz_137 : (mt 137).2.2.2.2 = [] := rfl
theorem cc_137 : Cond.code (mt 137).1 (mt 137).2.1 (mt 137).2.2.1 (mt 137).2.2.2.1 ∈ lw_g := mG 321 (by decide +kernel) rfl
theorem ci_137 : Cond.initialized (mt 137).1.cls ∈ lw_g := w_48
theorem cm_137 : Cond.instanceMethod (mt 137).1 ∈ lw_g := w_319
theorem cs_137 : Cond.selects (mt 137).1.cls (mt 137).1 (mt 137).1 ∈ lw_g := w_320
theorem cd_137 : (mt 137).1.cls ≠ "java/lang/invoke/MethodHandle" ∧ (mt 137).1.cls ≠ "java/lang/invoke/VarHandle" ∧ (parseMethodDescriptor (mt 137).1.desc).map (fun d => d.parameters.length) = some 0 := ⟨by decide +kernel, by decide +kernel, by decide +kernel⟩
theorem cl_137 : (mt 137).2.2.1 ≤ 17 := by decide
theorem cz_138 : (mt 138).2.2.2.2 = [] := rfl
theorem cc_138 : Cond.code (mt 138).1 (mt 138).2.1 (mt 138).2.2.1 (mt 138).2.2.2.1 ∈ lw_g := mG 338 (by decide +kernel) rfl
theorem ci_138 : Cond.initialized (mt 138).1.cls ∈ lw_g := w_48
theorem cm_138 : Cond.instanceMethod (mt 138).1 ∈ lw_g := w_337
theorem cs_138 : Cond.selects (mt 138).1.cls (mt 138).1 (mt 138).1 ∈ lw_g := w_6
theorem cd_138 : (mt 138).1.cls ≠ "java/lang/invoke/MethodHandle" ∧ (mt 138).1.cls ≠ "java/lang/invoke/VarHandle" ∧ (parseMethodDescriptor (mt 138).1.desc).map (fun d => d.parameters.length) = some 2 := ⟨by decide +kernel, by decide +kernel, by decide +kernel⟩
theorem cl_138 : (mt 138).2.2.1 ≤ 17 := by decide
theorem cz_139 : (mt 139).2.2.2.2 = [] := rfl
theorem cc_139 : Cond.code (mt 139).1 (mt 139).2.1 (mt 139).2.2.1 (mt 139).2.2.2.1 ∈ lw_g := mG 355 (by decide +kernel) rfl
theorem ci_139 : Cond.initialized (mt 139).1.cls ∈ lw_g := w_48
theorem cm_139 : Cond.instanceMethod (mt 139).1 ∈ lw_g := w_354
theorem cs_139 : Cond.selects (mt 139).1.cls (mt 139).1 (mt 139).1 ∈ lw_g := w_7
theorem cd_139 : (mt 139).1.cls ≠ "java/lang/invoke/MethodHandle" ∧ (mt 139).1.cls ≠ "java/lang/invoke/VarHandle" ∧ (parseMethodDescriptor (mt 139).1.desc).map (fun d => d.parameters.length) = some 3 := ⟨by decide +kernel, by decide +kernel, by decide +kernel⟩
theorem cl_139 : (mt 139).2.2.1 ≤ 17 := by decide
theorem cz_140 : (mt 140).2.2.2.2 = [] := rfl
theorem cc_140 : Cond.code (mt 140).1 (mt 140).2.1 (mt 140).2.2.1 (mt 140).2.2.2.1 ∈ lw_g := mG 413 (by decide +kernel) rfl
theorem ci_140 : Cond.initialized (mt 140).1.cls ∈ lw_g := w_48
theorem cm_140 : Cond.instanceMethod (mt 140).1 ∈ lw_g := w_411
theorem cs_140 : Cond.selects (mt 140).1.cls (mt 140).1 (mt 140).1 ∈ lw_g := w_412
theorem cd_140 : (mt 140).1.cls ≠ "java/lang/invoke/MethodHandle" ∧ (mt 140).1.cls ≠ "java/lang/invoke/VarHandle" ∧ (parseMethodDescriptor (mt 140).1.desc).map (fun d => d.parameters.length) = some 1 := ⟨by decide +kernel, by decide +kernel, by decide +kernel⟩
theorem cl_140 : (mt 140).2.2.1 ≤ 17 := by decide
theorem cz_141 : (mt 141).2.2.2.2 = [] := rfl
theorem cc_141 : Cond.code (mt 141).1 (mt 141).2.1 (mt 141).2.2.1 (mt 141).2.2.2.1 ∈ lw_g := mG 868 (by decide +kernel) rfl
theorem ci_141 : Cond.initialized (mt 141).1.cls ∈ lw_g := w_48
theorem cm_141 : Cond.instanceMethod (mt 141).1 ∈ lw_g := w_866
theorem cs_141 : Cond.selects (mt 141).1.cls (mt 141).1 (mt 141).1 ∈ lw_g := w_867
theorem cd_141 : (mt 141).1.cls ≠ "java/lang/invoke/MethodHandle" ∧ (mt 141).1.cls ≠ "java/lang/invoke/VarHandle" ∧ (parseMethodDescriptor (mt 141).1.desc).map (fun d => d.parameters.length) = some 1 := ⟨by decide +kernel, by decide +kernel, by decide +kernel⟩
theorem cl_141 : (mt 141).2.2.1 ≤ 17 := by decide
theorem cz_142 : (mt 142).2.2.2.2 = [] := rfl
theorem cc_142 : Cond.code (mt 142).1 (mt 142).2.1 (mt 142).2.2.1 (mt 142).2.2.2.1 ∈ lw_g := mG 417 (by decide +kernel) rfl
theorem ci_142 : Cond.initialized (mt 142).1.cls ∈ lw_g := w_48
theorem cm_142 : Cond.instanceMethod (mt 142).1 ∈ lw_g := w_415
theorem cs_142 : Cond.selects (mt 142).1.cls (mt 142).1 (mt 142).1 ∈ lw_g := w_416
theorem cd_142 : (mt 142).1.cls ≠ "java/lang/invoke/MethodHandle" ∧ (mt 142).1.cls ≠ "java/lang/invoke/VarHandle" ∧ (parseMethodDescriptor (mt 142).1.desc).map (fun d => d.parameters.length) = some 1 := ⟨by decide +kernel, by decide +kernel, by decide +kernel⟩
theorem cl_142 : (mt 142).2.2.1 ≤ 17 := by decide
theorem cz_143 : (mt 143).2.2.2.2 = [] := rfl
theorem cc_143 : Cond.code (mt 143).1 (mt 143).2.1 (mt 143).2.2.1 (mt 143).2.2.2.1 ∈ lw_g := mG 518 (by decide +kernel) rfl
theorem ci_143 : Cond.initialized (mt 143).1.cls ∈ lw_g := w_48
theorem cm_143 : Cond.instanceMethod (mt 143).1 ∈ lw_g := w_516
theorem cs_143 : Cond.selects (mt 143).1.cls (mt 143).1 (mt 143).1 ∈ lw_g := w_517
theorem cd_143 : (mt 143).1.cls ≠ "java/lang/invoke/MethodHandle" ∧ (mt 143).1.cls ≠ "java/lang/invoke/VarHandle" ∧ (parseMethodDescriptor (mt 143).1.desc).map (fun d => d.parameters.length) = some 1 := ⟨by decide +kernel, by decide +kernel, by decide +kernel⟩
theorem cl_143 : (mt 143).2.2.1 ≤ 17 := by decide
theorem cz_144 : (mt 144).2.2.2.2 = [] := rfl
theorem cc_144 : Cond.code (mt 144).1 (mt 144).2.1 (mt 144).2.2.1 (mt 144).2.2.2.1 ∈ lw_g := mG 421 (by decide +kernel) rfl
theorem ci_144 : Cond.initialized (mt 144).1.cls ∈ lw_g := w_48
theorem cm_144 : Cond.instanceMethod (mt 144).1 ∈ lw_g := w_419
theorem cs_144 : Cond.selects (mt 144).1.cls (mt 144).1 (mt 144).1 ∈ lw_g := w_420
theorem cd_144 : (mt 144).1.cls ≠ "java/lang/invoke/MethodHandle" ∧ (mt 144).1.cls ≠ "java/lang/invoke/VarHandle" ∧ (parseMethodDescriptor (mt 144).1.desc).map (fun d => d.parameters.length) = some 1 := ⟨by decide +kernel, by decide +kernel, by decide +kernel⟩
theorem cl_144 : (mt 144).2.2.1 ≤ 17 := by decide
theorem cz_145 : (mt 145).2.2.2.2 = [] := rfl
theorem cc_145 : Cond.code (mt 145).1 (mt 145).2.1 (mt 145).2.2.1 (mt 145).2.2.2.1 ∈ lw_g := mG 509 (by decide +kernel) rfl
theorem ci_145 : Cond.initialized (mt 145).1.cls ∈ lw_g := w_48
theorem cm_145 : Cond.instanceMethod (mt 145).1 ∈ lw_g := w_507
theorem cs_145 : Cond.selects (mt 145).1.cls (mt 145).1 (mt 145).1 ∈ lw_g := w_508
theorem cd_145 : (mt 145).1.cls ≠ "java/lang/invoke/MethodHandle" ∧ (mt 145).1.cls ≠ "java/lang/invoke/VarHandle" ∧ (parseMethodDescriptor (mt 145).1.desc).map (fun d => d.parameters.length) = some 1 := ⟨by decide +kernel, by decide +kernel, by decide +kernel⟩
theorem cl_145 : (mt 145).2.2.1 ≤ 17 := by decide
theorem cz_146 : (mt 146).2.2.2.2 = [] := rfl
theorem cc_146 : Cond.code (mt 146).1 (mt 146).2.1 (mt 146).2.2.1 (mt 146).2.2.2.1 ∈ lw_g := mG 505 (by decide +kernel) rfl
theorem ci_146 : Cond.initialized (mt 146).1.cls ∈ lw_g := w_48
theorem cm_146 : Cond.instanceMethod (mt 146).1 ∈ lw_g := w_503
theorem cs_146 : Cond.selects (mt 146).1.cls (mt 146).1 (mt 146).1 ∈ lw_g := w_504
theorem cd_146 : (mt 146).1.cls ≠ "java/lang/invoke/MethodHandle" ∧ (mt 146).1.cls ≠ "java/lang/invoke/VarHandle" ∧ (parseMethodDescriptor (mt 146).1.desc).map (fun d => d.parameters.length) = some 1 := ⟨by decide +kernel, by decide +kernel, by decide +kernel⟩
theorem cl_146 : (mt 146).2.2.1 ≤ 17 := by decide
theorem cz_147 : (mt 147).2.2.2.2 = [] := rfl
theorem cc_147 : Cond.code (mt 147).1 (mt 147).2.1 (mt 147).2.2.1 (mt 147).2.2.2.1 ∈ lw_g := mG 549 (by decide +kernel) rfl
theorem ci_147 : Cond.initialized (mt 147).1.cls ∈ lw_g := w_48
theorem cm_147 : Cond.instanceMethod (mt 147).1 ∈ lw_g := w_547
theorem cs_147 : Cond.selects (mt 147).1.cls (mt 147).1 (mt 147).1 ∈ lw_g := w_548
theorem cd_147 : (mt 147).1.cls ≠ "java/lang/invoke/MethodHandle" ∧ (mt 147).1.cls ≠ "java/lang/invoke/VarHandle" ∧ (parseMethodDescriptor (mt 147).1.desc).map (fun d => d.parameters.length) = some 1 := ⟨by decide +kernel, by decide +kernel, by decide +kernel⟩
theorem cl_147 : (mt 147).2.2.1 ≤ 17 := by decide
theorem cz_148 : (mt 148).2.2.2.2 = [] := rfl
theorem cc_148 : Cond.code (mt 148).1 (mt 148).2.1 (mt 148).2.2.1 (mt 148).2.2.2.1 ∈ lw_g := mG 1132 (by decide +kernel) rfl
theorem ci_148 : Cond.initialized (mt 148).1.cls ∈ lw_g := w_47
theorem cm_148 : Cond.instanceMethod (mt 148).1 ∈ lw_g := w_1131
theorem cd_148 : (mt 148).1.cls ≠ "java/lang/invoke/MethodHandle" ∧ (mt 148).1.cls ≠ "java/lang/invoke/VarHandle" ∧ (parseMethodDescriptor (mt 148).1.desc).map (fun d => d.parameters.length) = some 2 := ⟨by decide +kernel, by decide +kernel, by decide +kernel⟩
theorem cl_148 : (mt 148).2.2.1 ≤ 17 := by decide
theorem cz_149 : (mt 149).2.2.2.2 = [] := rfl
theorem cc_149 : Cond.code (mt 149).1 (mt 149).2.1 (mt 149).2.2.1 (mt 149).2.2.2.1 ∈ lw_g := mG 330 (by decide +kernel) rfl
theorem ci_149 : Cond.initialized (mt 149).1.cls ∈ lw_g := w_47
theorem cm_149 : Cond.instanceMethod (mt 149).1 ∈ lw_g := w_328
theorem cs_149 : Cond.selects (mt 149).1.cls (mt 149).1 (mt 149).1 ∈ lw_g := w_329
theorem cd_149 : (mt 149).1.cls ≠ "java/lang/invoke/MethodHandle" ∧ (mt 149).1.cls ≠ "java/lang/invoke/VarHandle" ∧ (parseMethodDescriptor (mt 149).1.desc).map (fun d => d.parameters.length) = some 0 := ⟨by decide +kernel, by decide +kernel, by decide +kernel⟩
theorem cl_149 : (mt 149).2.2.1 ≤ 17 := by decide
theorem cz_150 : (mt 150).2.2.2.2 = [] := rfl
theorem cc_150 : Cond.code (mt 150).1 (mt 150).2.1 (mt 150).2.2.1 (mt 150).2.2.2.1 ∈ lw_g := mG 334 (by decide +kernel) rfl
theorem ci_150 : Cond.initialized (mt 150).1.cls ∈ lw_g := w_47
theorem cm_150 : Cond.instanceMethod (mt 150).1 ∈ lw_g := w_332
theorem cs_150 : Cond.selects (mt 150).1.cls (mt 150).1 (mt 150).1 ∈ lw_g := w_333
theorem cd_150 : (mt 150).1.cls ≠ "java/lang/invoke/MethodHandle" ∧ (mt 150).1.cls ≠ "java/lang/invoke/VarHandle" ∧ (parseMethodDescriptor (mt 150).1.desc).map (fun d => d.parameters.length) = some 1 := ⟨by decide +kernel, by decide +kernel, by decide +kernel⟩
theorem cl_150 : (mt 150).2.2.1 ≤ 17 := by decide
theorem cz_151 : (mt 151).2.2.2.2 = [] := rfl
theorem cc_151 : Cond.code (mt 151).1 (mt 151).2.1 (mt 151).2.2.1 (mt 151).2.2.2.1 ∈ lw_g := mG 247 (by decide +kernel) rfl
theorem ci_151 : Cond.initialized (mt 151).1.cls ∈ lw_g := w_47
theorem cm_151 : Cond.instanceMethod (mt 151).1 ∈ lw_g := w_245
theorem cs_151 : Cond.selects (mt 151).1.cls (mt 151).1 (mt 151).1 ∈ lw_g := w_246
theorem cd_151 : (mt 151).1.cls ≠ "java/lang/invoke/MethodHandle" ∧ (mt 151).1.cls ≠ "java/lang/invoke/VarHandle" ∧ (parseMethodDescriptor (mt 151).1.desc).map (fun d => d.parameters.length) = some 1 := ⟨by decide +kernel, by decide +kernel, by decide +kernel⟩
theorem cl_151 : (mt 151).2.2.1 ≤ 17 := by decide
theorem cz_152 : (mt 152).2.2.2.2 = [] := rfl
theorem cc_152 : Cond.code (mt 152).1 (mt 152).2.1 (mt 152).2.2.1 (mt 152).2.2.2.1 ∈ lw_g := mG 396 (by decide +kernel) rfl
theorem ci_152 : Cond.initialized (mt 152).1.cls ∈ lw_g := w_47
theorem cm_152 : Cond.instanceMethod (mt 152).1 ∈ lw_g := w_394
theorem cs_152 : Cond.selects (mt 152).1.cls (mt 152).1 (mt 152).1 ∈ lw_g := w_395
theorem cd_152 : (mt 152).1.cls ≠ "java/lang/invoke/MethodHandle" ∧ (mt 152).1.cls ≠ "java/lang/invoke/VarHandle" ∧ (parseMethodDescriptor (mt 152).1.desc).map (fun d => d.parameters.length) = some 1 := ⟨by decide +kernel, by decide +kernel, by decide +kernel⟩
theorem cl_152 : (mt 152).2.2.1 ≤ 17 := by decide
theorem cz_153 : (mt 153).2.2.2.2 = [] := rfl
theorem cc_153 : Cond.code (mt 153).1 (mt 153).2.1 (mt 153).2.2.1 (mt 153).2.2.2.1 ∈ lw_g := mG 269 (by decide +kernel) rfl
theorem ci_153 : Cond.initialized (mt 153).1.cls ∈ lw_g := w_47
theorem cm_153 : Cond.instanceMethod (mt 153).1 ∈ lw_g := w_267
theorem cs_153 : Cond.selects (mt 153).1.cls (mt 153).1 (mt 153).1 ∈ lw_g := w_268
theorem cd_153 : (mt 153).1.cls ≠ "java/lang/invoke/MethodHandle" ∧ (mt 153).1.cls ≠ "java/lang/invoke/VarHandle" ∧ (parseMethodDescriptor (mt 153).1.desc).map (fun d => d.parameters.length) = some 2 := ⟨by decide +kernel, by decide +kernel, by decide +kernel⟩
theorem cl_153 : (mt 153).2.2.1 ≤ 17 := by decide
theorem cz_154 : (mt 154).2.2.2.2 = [] := rfl
theorem cc_154 : Cond.code (mt 154).1 (mt 154).2.1 (mt 154).2.2.1 (mt 154).2.2.2.1 ∈ lw_g := mG 286 (by decide +kernel) rfl
theorem ci_154 : Cond.initialized (mt 154).1.cls ∈ lw_g := w_47
theorem cm_154 : Cond.instanceMethod (mt 154).1 ∈ lw_g := w_284
theorem cs_154 : Cond.selects (mt 154).1.cls (mt 154).1 (mt 154).1 ∈ lw_g := w_1
theorem cd_154 : (mt 154).1.cls ≠ "java/lang/invoke/MethodHandle" ∧ (mt 154).1.cls ≠ "java/lang/invoke/VarHandle" ∧ (parseMethodDescriptor (mt 154).1.desc).map (fun d => d.parameters.length) = some 1 := ⟨by decide +kernel, by decide +kernel, by decide +kernel⟩
theorem cl_154 : (mt 154).2.2.1 ≤ 17 := by decide
theorem cz_155 : (mt 155).2.2.2.2 = [] := rfl
theorem cc_155 : Cond.code (mt 155).1 (mt 155).2.1 (mt 155).2.2.1 (mt 155).2.2.2.1 ∈ lw_g := mG 304 (by decide +kernel) rfl
theorem ci_155 : Cond.initialized (mt 155).1.cls ∈ lw_g := w_47
theorem cm_155 : Cond.instanceMethod (mt 155).1 ∈ lw_g := w_303
theorem cs_155 : Cond.selects (mt 155).1.cls (mt 155).1 (mt 155).1 ∈ lw_g := w_3
theorem cd_155 : (mt 155).1.cls ≠ "java/lang/invoke/MethodHandle" ∧ (mt 155).1.cls ≠ "java/lang/invoke/VarHandle" ∧ (parseMethodDescriptor (mt 155).1.desc).map (fun d => d.parameters.length) = some 2 := ⟨by decide +kernel, by decide +kernel, by decide +kernel⟩
theorem cl_155 : (mt 155).2.2.1 ≤ 17 := by decide
theorem cz_156 : (mt 156).2.2.2.2 = [] := rfl
theorem cc_156 : Cond.code (mt 156).1 (mt 156).2.1 (mt 156).2.2.1 (mt 156).2.2.2.1 ∈ lw_g := mG 313 (by decide +kernel) rfl
theorem ci_156 : Cond.initialized (mt 156).1.cls ∈ lw_g := w_47
theorem cm_156 : Cond.instanceMethod (mt 156).1 ∈ lw_g := w_312
theorem cs_156 : Cond.selects (mt 156).1.cls (mt 156).1 (mt 156).1 ∈ lw_g := w_4
theorem cd_156 : (mt 156).1.cls ≠ "java/lang/invoke/MethodHandle" ∧ (mt 156).1.cls ≠ "java/lang/invoke/VarHandle" ∧ (parseMethodDescriptor (mt 156).1.desc).map (fun d => d.parameters.length) = some 1 := ⟨by decide +kernel, by decide +kernel, by decide +kernel⟩
theorem cl_156 : (mt 156).2.2.1 ≤ 17 := by decide
theorem cz_157 : (mt 157).2.2.2.2 = [] := rfl
theorem cc_157 : Cond.code (mt 157).1 (mt 157).2.1 (mt 157).2.2.1 (mt 157).2.2.2.1 ∈ lw_g := mG 291 (by decide +kernel) rfl
theorem ci_157 : Cond.initialized (mt 157).1.cls ∈ lw_g := w_47
theorem cm_157 : Cond.instanceMethod (mt 157).1 ∈ lw_g := w_290
theorem cs_157 : Cond.selects (mt 157).1.cls (mt 157).1 (mt 157).1 ∈ lw_g := w_2
theorem cd_157 : (mt 157).1.cls ≠ "java/lang/invoke/MethodHandle" ∧ (mt 157).1.cls ≠ "java/lang/invoke/VarHandle" ∧ (parseMethodDescriptor (mt 157).1.desc).map (fun d => d.parameters.length) = some 1 := ⟨by decide +kernel, by decide +kernel, by decide +kernel⟩
theorem cl_157 : (mt 157).2.2.1 ≤ 17 := by decide
theorem cz_158 : (mt 158).2.2.2.2 = [] := rfl
theorem cc_158 : Cond.code (mt 158).1 (mt 158).2.1 (mt 158).2.2.1 (mt 158).2.2.2.1 ∈ lw_g := mG 958 (by decide +kernel) rfl
theorem ci_158 : Cond.initialized (mt 158).1.cls ∈ lw_g := w_39
theorem cm_158 : Cond.instanceMethod (mt 158).1 ∈ lw_g := w_957
theorem cd_158 : (mt 158).1.cls ≠ "java/lang/invoke/MethodHandle" ∧ (mt 158).1.cls ≠ "java/lang/invoke/VarHandle" ∧ (parseMethodDescriptor (mt 158).1.desc).map (fun d => d.parameters.length) = some 0 := ⟨by decide +kernel, by decide +kernel, by decide +kernel⟩
theorem cl_158 : (mt 158).2.2.1 ≤ 17 := by decide
theorem cz_159 : (mt 159).2.2.2.2 = [] := rfl
theorem cc_159 : Cond.code (mt 159).1 (mt 159).2.1 (mt 159).2.2.1 (mt 159).2.2.2.1 ∈ lw_g := mG 63 (by decide +kernel) rfl
theorem ci_159 : Cond.initialized (mt 159).1.cls ∈ lw_g := w_39
theorem cm_159 : Cond.instanceMethod (mt 159).1 ∈ lw_g := w_61
theorem cs_159 : Cond.selects (mt 159).1.cls (mt 159).1 (mt 159).1 ∈ lw_g := w_62
theorem cd_159 : (mt 159).1.cls ≠ "java/lang/invoke/MethodHandle" ∧ (mt 159).1.cls ≠ "java/lang/invoke/VarHandle" ∧ (parseMethodDescriptor (mt 159).1.desc).map (fun d => d.parameters.length) = some 0 := ⟨by decide +kernel, by decide +kernel, by decide +kernel⟩
theorem cl_159 : (mt 159).2.2.1 ≤ 17 := by decide
theorem cz_160 : (mt 160).2.2.2.2 = [] := rfl
theorem cc_160 : Cond.code (mt 160).1 (mt 160).2.1 (mt 160).2.2.1 (mt 160).2.2.2.1 ∈ lw_g := mG 145 (by decide +kernel) rfl
theorem ci_160 : Cond.initialized (mt 160).1.cls ∈ lw_g := w_39
theorem cm_160 : Cond.instanceMethod (mt 160).1 ∈ lw_g := w_143
theorem cs_160 : Cond.selects (mt 160).1.cls (mt 160).1 (mt 160).1 ∈ lw_g := w_144
theorem cd_160 : (mt 160).1.cls ≠ "java/lang/invoke/MethodHandle" ∧ (mt 160).1.cls ≠ "java/lang/invoke/VarHandle" ∧ (parseMethodDescriptor (mt 160).1.desc).map (fun d => d.parameters.length) = some 3 := ⟨by decide +kernel, by decide +kernel, by decide +kernel⟩
theorem cl_160 : (mt 160).2.2.1 ≤ 17 := by decide
theorem cz_161 : (mt 161).2.2.2.2 = [] := rfl
theorem cc_161 : Cond.code (mt 161).1 (mt 161).2.1 (mt 161).2.2.1 (mt 161).2.2.2.1 ∈ lw_g := mG 1443 (by decide +kernel) rfl
theorem ci_161 : Cond.initialized (mt 161).1.cls ∈ lw_g := w_39
theorem cm_161 : Cond.instanceMethod (mt 161).1 ∈ lw_g := w_1441
theorem cs_161 : Cond.selects (mt 161).1.cls (mt 161).1 (mt 161).1 ∈ lw_g := w_1442
theorem cd_161 : (mt 161).1.cls ≠ "java/lang/invoke/MethodHandle" ∧ (mt 161).1.cls ≠ "java/lang/invoke/VarHandle" ∧ (parseMethodDescriptor (mt 161).1.desc).map (fun d => d.parameters.length) = some 2 := ⟨by decide +kernel, by decide +kernel, by decide +kernel⟩
theorem cl_161 : (mt 161).2.2.1 ≤ 17 := by decide
theorem cz_162 : (mt 162).2.2.2.2 = [] := rfl
theorem cc_162 : Cond.code (mt 162).1 (mt 162).2.1 (mt 162).2.2.1 (mt 162).2.2.2.1 ∈ lw_g := mG 1459 (by decide +kernel) rfl
theorem ci_162 : Cond.initialized (mt 162).1.cls ∈ lw_g := w_39
theorem cm_162 : Cond.instanceMethod (mt 162).1 ∈ lw_g := w_1457
theorem cs_162 : Cond.selects (mt 162).1.cls (mt 162).1 (mt 162).1 ∈ lw_g := w_1458
theorem cd_162 : (mt 162).1.cls ≠ "java/lang/invoke/MethodHandle" ∧ (mt 162).1.cls ≠ "java/lang/invoke/VarHandle" ∧ (parseMethodDescriptor (mt 162).1.desc).map (fun d => d.parameters.length) = some 4 := ⟨by decide +kernel, by decide +kernel, by decide +kernel⟩
theorem cl_162 : (mt 162).2.2.1 ≤ 17 := by decide
theorem cz_163 : (mt 163).2.2.2.2 = [] := rfl
theorem cc_163 : Cond.code (mt 163).1 (mt 163).2.1 (mt 163).2.2.1 (mt 163).2.2.2.1 ∈ lw_g := mG 1472 (by decide +kernel) rfl
theorem ci_163 : Cond.initialized (mt 163).1.cls ∈ lw_g := w_39
theorem cm_163 : Cond.instanceMethod (mt 163).1 ∈ lw_g := w_1470
theorem cs_163 : Cond.selects (mt 163).1.cls (mt 163).1 (mt 163).1 ∈ lw_g := w_1471
theorem cd_163 : (mt 163).1.cls ≠ "java/lang/invoke/MethodHandle" ∧ (mt 163).1.cls ≠ "java/lang/invoke/VarHandle" ∧ (parseMethodDescriptor (mt 163).1.desc).map (fun d => d.parameters.length) = some 3 := ⟨by decide +kernel, by decide +kernel, by decide +kernel⟩
theorem cl_163 : (mt 163).2.2.1 ≤ 17 := by decide
theorem cz_164 : (mt 164).2.2.2.2 = [] := rfl
theorem cc_164 : Cond.code (mt 164).1 (mt 164).2.1 (mt 164).2.2.1 (mt 164).2.2.2.1 ∈ lw_g := mG 1485 (by decide +kernel) rfl
theorem ci_164 : Cond.initialized (mt 164).1.cls ∈ lw_g := w_39
theorem cm_164 : Cond.instanceMethod (mt 164).1 ∈ lw_g := w_1483
theorem cs_164 : Cond.selects (mt 164).1.cls (mt 164).1 (mt 164).1 ∈ lw_g := w_1484
theorem cd_164 : (mt 164).1.cls ≠ "java/lang/invoke/MethodHandle" ∧ (mt 164).1.cls ≠ "java/lang/invoke/VarHandle" ∧ (parseMethodDescriptor (mt 164).1.desc).map (fun d => d.parameters.length) = some 4 := ⟨by decide +kernel, by decide +kernel, by decide +kernel⟩
theorem cl_164 : (mt 164).2.2.1 ≤ 17 := by decide
theorem cz_165 : (mt 165).2.2.2.2 = [] := rfl
theorem cc_165 : Cond.code (mt 165).1 (mt 165).2.1 (mt 165).2.2.1 (mt 165).2.2.2.1 ∈ lw_g := mG 198 (by decide +kernel) rfl
theorem ci_165 : Cond.initialized (mt 165).1.cls ∈ lw_g := w_39
theorem cm_165 : Cond.instanceMethod (mt 165).1 ∈ lw_g := w_196
theorem cs_165 : Cond.selects (mt 165).1.cls (mt 165).1 (mt 165).1 ∈ lw_g := w_197
theorem cd_165 : (mt 165).1.cls ≠ "java/lang/invoke/MethodHandle" ∧ (mt 165).1.cls ≠ "java/lang/invoke/VarHandle" ∧ (parseMethodDescriptor (mt 165).1.desc).map (fun d => d.parameters.length) = some 4 := ⟨by decide +kernel, by decide +kernel, by decide +kernel⟩
theorem cl_165 : (mt 165).2.2.1 ≤ 17 := by decide
theorem cz_166 : (mt 166).2.2.2.2 = [] := rfl
theorem cc_166 : Cond.code (mt 166).1 (mt 166).2.1 (mt 166).2.2.1 (mt 166).2.2.2.1 ∈ lw_g := mG 1506 (by decide +kernel) rfl
theorem ci_166 : Cond.initialized (mt 166).1.cls ∈ lw_g := w_39
theorem cm_166 : Cond.instanceMethod (mt 166).1 ∈ lw_g := w_1504
theorem cs_166 : Cond.selects (mt 166).1.cls (mt 166).1 (mt 166).1 ∈ lw_g := w_1505
theorem cd_166 : (mt 166).1.cls ≠ "java/lang/invoke/MethodHandle" ∧ (mt 166).1.cls ≠ "java/lang/invoke/VarHandle" ∧ (parseMethodDescriptor (mt 166).1.desc).map (fun d => d.parameters.length) = some 2 := ⟨by decide +kernel, by decide +kernel, by decide +kernel⟩
theorem cl_166 : (mt 166).2.2.1 ≤ 17 := by decide
theorem cz_167 : (mt 167).2.2.2.2 = [] := rfl
theorem cc_167 : Cond.code (mt 167).1 (mt 167).2.1 (mt 167).2.2.1 (mt 167).2.2.2.1 ∈ lw_g := mG 1498 (by decide +kernel) rfl
theorem ci_167 : Cond.initialized (mt 167).1.cls ∈ lw_g := w_39
theorem cm_167 : Cond.instanceMethod (mt 167).1 ∈ lw_g := w_1496
theorem cs_167 : Cond.selects (mt 167).1.cls (mt 167).1 (mt 167).1 ∈ lw_g := w_1497
theorem cd_167 : (mt 167).1.cls ≠ "java/lang/invoke/MethodHandle" ∧ (mt 167).1.cls ≠ "java/lang/invoke/VarHandle" ∧ (parseMethodDescriptor (mt 167).1.desc).map (fun d => d.parameters.length) = some 0 := ⟨by decide +kernel, by decide +kernel, by decide +kernel⟩
theorem cl_167 : (mt 167).2.2.1 ≤ 17 := by decide
theorem cz_168 : (mt 168).2.2.2.2 = [] := rfl
theorem cc_168 : Cond.code (mt 168).1 (mt 168).2.1 (mt 168).2.2.1 (mt 168).2.2.2.1 ∈ lw_g := mG 234 (by decide +kernel) rfl
theorem ci_168 : Cond.initialized (mt 168).1.cls ∈ lw_g := w_39
theorem cm_168 : Cond.instanceMethod (mt 168).1 ∈ lw_g := w_232
theorem cs_168 : Cond.selects (mt 168).1.cls (mt 168).1 (mt 168).1 ∈ lw_g := w_233
theorem cd_168 : (mt 168).1.cls ≠ "java/lang/invoke/MethodHandle" ∧ (mt 168).1.cls ≠ "java/lang/invoke/VarHandle" ∧ (parseMethodDescriptor (mt 168).1.desc).map (fun d => d.parameters.length) = some 2 := ⟨by decide +kernel, by decide +kernel, by decide +kernel⟩
theorem cl_168 : (mt 168).2.2.1 ≤ 17 := by decide
theorem cz_171 : (mt 171).2.2.2.2 = [] := rfl
theorem cc_171 : Cond.code (mt 171).1 (mt 171).2.1 (mt 171).2.2.1 (mt 171).2.2.2.1 ∈ lw_g := mG 618 (by decide +kernel) rfl
theorem ci_171 : Cond.initialized (mt 171).1.cls ∈ lw_g := w_39
theorem cm_171 : Cond.instanceMethod (mt 171).1 ∈ lw_g := w_616
theorem cs_171 : Cond.selects (mt 171).1.cls (mt 171).1 (mt 171).1 ∈ lw_g := w_617
theorem cd_171 : (mt 171).1.cls ≠ "java/lang/invoke/MethodHandle" ∧ (mt 171).1.cls ≠ "java/lang/invoke/VarHandle" ∧ (parseMethodDescriptor (mt 171).1.desc).map (fun d => d.parameters.length) = some 2 := ⟨by decide +kernel, by decide +kernel, by decide +kernel⟩
theorem cl_171 : (mt 171).2.2.1 ≤ 17 := by decide
theorem cz_172 : (mt 172).2.2.2.2 = [] := rfl
theorem cc_172 : Cond.code (mt 172).1 (mt 172).2.1 (mt 172).2.2.1 (mt 172).2.2.2.1 ∈ lw_g := mG 863 (by decide +kernel) rfl
theorem ci_172 : Cond.initialized (mt 172).1.cls ∈ lw_g := w_39
theorem cm_172 : Cond.instanceMethod (mt 172).1 ∈ lw_g := w_861
theorem cs_172 : Cond.selects (mt 172).1.cls (mt 172).1 (mt 172).1 ∈ lw_g := w_862
theorem cd_172 : (mt 172).1.cls ≠ "java/lang/invoke/MethodHandle" ∧ (mt 172).1.cls ≠ "java/lang/invoke/VarHandle" ∧ (parseMethodDescriptor (mt 172).1.desc).map (fun d => d.parameters.length) = some 2 := ⟨by decide +kernel, by decide +kernel, by decide +kernel⟩
theorem cl_172 : (mt 172).2.2.1 ≤ 17 := by decide
theorem cz_173 : (mt 173).2.2.2.2 = [] := rfl
theorem cc_173 : Cond.code (mt 173).1 (mt 173).2.1 (mt 173).2.2.1 (mt 173).2.2.2.1 ∈ lw_g := mG 883 (by decide +kernel) rfl
theorem ci_173 : Cond.initialized (mt 173).1.cls ∈ lw_g := w_39
theorem cm_173 : Cond.instanceMethod (mt 173).1 ∈ lw_g := w_881
theorem cs_173 : Cond.selects (mt 173).1.cls (mt 173).1 (mt 173).1 ∈ lw_g := w_882
theorem cd_173 : (mt 173).1.cls ≠ "java/lang/invoke/MethodHandle" ∧ (mt 173).1.cls ≠ "java/lang/invoke/VarHandle" ∧ (parseMethodDescriptor (mt 173).1.desc).map (fun d => d.parameters.length) = some 2 := ⟨by decide +kernel, by decide +kernel, by decide +kernel⟩
theorem cl_173 : (mt 173).2.2.1 ≤ 17 := by decide
theorem cz_174 : (mt 174).2.2.2.2 = [] := rfl
theorem cc_174 : Cond.code (mt 174).1 (mt 174).2.1 (mt 174).2.2.1 (mt 174).2.2.2.1 ∈ lw_g := mG 638 (by decide +kernel) rfl
theorem ci_174 : Cond.initialized (mt 174).1.cls ∈ lw_g := w_39
theorem cm_174 : Cond.instanceMethod (mt 174).1 ∈ lw_g := w_636
theorem cs_174 : Cond.selects (mt 174).1.cls (mt 174).1 (mt 174).1 ∈ lw_g := w_637
theorem cd_174 : (mt 174).1.cls ≠ "java/lang/invoke/MethodHandle" ∧ (mt 174).1.cls ≠ "java/lang/invoke/VarHandle" ∧ (parseMethodDescriptor (mt 174).1.desc).map (fun d => d.parameters.length) = some 1 := ⟨by decide +kernel, by decide +kernel, by decide +kernel⟩
theorem cl_174 : (mt 174).2.2.1 ≤ 17 := by decide
theorem cz_178 : (mt 178).2.2.2.2 = [] := rfl
theorem cc_178 : Cond.code (mt 178).1 (mt 178).2.1 (mt 178).2.2.1 (mt 178).2.2.2.1 ∈ lw_g := mG 900 (by decide +kernel) rfl
theorem ci_178 : Cond.initialized (mt 178).1.cls ∈ lw_g := w_39
theorem cm_178 : Cond.instanceMethod (mt 178).1 ∈ lw_g := w_898
theorem cs_178 : Cond.selects (mt 178).1.cls (mt 178).1 (mt 178).1 ∈ lw_g := w_899
theorem cd_178 : (mt 178).1.cls ≠ "java/lang/invoke/MethodHandle" ∧ (mt 178).1.cls ≠ "java/lang/invoke/VarHandle" ∧ (parseMethodDescriptor (mt 178).1.desc).map (fun d => d.parameters.length) = some 3 := ⟨by decide +kernel, by decide +kernel, by decide +kernel⟩
theorem cl_178 : (mt 178).2.2.1 ≤ 17 := by decide
theorem cz_179 : (mt 179).2.2.2.2 = [] := rfl
theorem cc_179 : Cond.code (mt 179).1 (mt 179).2.1 (mt 179).2.2.1 (mt 179).2.2.2.1 ∈ lw_g := mG 772 (by decide +kernel) rfl
theorem ci_179 : Cond.initialized (mt 179).1.cls ∈ lw_g := w_39
theorem cm_179 : Cond.instanceMethod (mt 179).1 ∈ lw_g := w_770
theorem cs_179 : Cond.selects (mt 179).1.cls (mt 179).1 (mt 179).1 ∈ lw_g := w_771
theorem cd_179 : (mt 179).1.cls ≠ "java/lang/invoke/MethodHandle" ∧ (mt 179).1.cls ≠ "java/lang/invoke/VarHandle" ∧ (parseMethodDescriptor (mt 179).1.desc).map (fun d => d.parameters.length) = some 2 := ⟨by decide +kernel, by decide +kernel, by decide +kernel⟩
theorem cl_179 : (mt 179).2.2.1 ≤ 17 := by decide
theorem cz_180 : (mt 180).2.2.2.2 = [] := rfl
theorem cc_180 : Cond.code (mt 180).1 (mt 180).2.1 (mt 180).2.2.1 (mt 180).2.2.2.1 ∈ lw_g := mG 799 (by decide +kernel) rfl
theorem ci_180 : Cond.initialized (mt 180).1.cls ∈ lw_g := w_39
theorem cm_180 : Cond.instanceMethod (mt 180).1 ∈ lw_g := w_797
theorem cs_180 : Cond.selects (mt 180).1.cls (mt 180).1 (mt 180).1 ∈ lw_g := w_798
theorem cd_180 : (mt 180).1.cls ≠ "java/lang/invoke/MethodHandle" ∧ (mt 180).1.cls ≠ "java/lang/invoke/VarHandle" ∧ (parseMethodDescriptor (mt 180).1.desc).map (fun d => d.parameters.length) = some 1 := ⟨by decide +kernel, by decide +kernel, by decide +kernel⟩
theorem cl_180 : (mt 180).2.2.1 ≤ 17 := by decide
theorem cz_181 : (mt 181).2.2.2.2 = [] := rfl
theorem cc_181 : Cond.code (mt 181).1 (mt 181).2.1 (mt 181).2.2.1 (mt 181).2.2.2.1 ∈ lw_g := mG 938 (by decide +kernel) rfl
theorem ci_181 : Cond.initialized (mt 181).1.cls ∈ lw_g := w_39
theorem cm_181 : Cond.instanceMethod (mt 181).1 ∈ lw_g := w_936
theorem cs_181 : Cond.selects (mt 181).1.cls (mt 181).1 (mt 181).1 ∈ lw_g := w_937
theorem cd_181 : (mt 181).1.cls ≠ "java/lang/invoke/MethodHandle" ∧ (mt 181).1.cls ≠ "java/lang/invoke/VarHandle" ∧ (parseMethodDescriptor (mt 181).1.desc).map (fun d => d.parameters.length) = some 1 := ⟨by decide +kernel, by decide +kernel, by decide +kernel⟩
theorem cl_181 : (mt 181).2.2.1 ≤ 17 := by decide
theorem cz_182 : (mt 182).2.2.2.2 = [] := rfl
theorem cc_182 : Cond.code (mt 182).1 (mt 182).2.1 (mt 182).2.2.1 (mt 182).2.2.2.1 ∈ lw_g := mG 948 (by decide +kernel) rfl
theorem ci_182 : Cond.initialized (mt 182).1.cls ∈ lw_g := w_39
theorem cm_182 : Cond.instanceMethod (mt 182).1 ∈ lw_g := w_946
theorem cs_182 : Cond.selects (mt 182).1.cls (mt 182).1 (mt 182).1 ∈ lw_g := w_947
theorem cd_182 : (mt 182).1.cls ≠ "java/lang/invoke/MethodHandle" ∧ (mt 182).1.cls ≠ "java/lang/invoke/VarHandle" ∧ (parseMethodDescriptor (mt 182).1.desc).map (fun d => d.parameters.length) = some 1 := ⟨by decide +kernel, by decide +kernel, by decide +kernel⟩
theorem cl_182 : (mt 182).2.2.1 ≤ 17 := by decide
theorem cz_183 : (mt 183).2.2.2.2 = [] := rfl
theorem cc_183 : Cond.code (mt 183).1 (mt 183).2.1 (mt 183).2.2.1 (mt 183).2.2.2.1 ∈ lw_g := mG 833 (by decide +kernel) rfl
theorem ci_183 : Cond.initialized (mt 183).1.cls ∈ lw_g := w_39
theorem cm_183 : Cond.instanceMethod (mt 183).1 ∈ lw_g := w_831
theorem cs_183 : Cond.selects (mt 183).1.cls (mt 183).1 (mt 183).1 ∈ lw_g := w_832
theorem cd_183 : (mt 183).1.cls ≠ "java/lang/invoke/MethodHandle" ∧ (mt 183).1.cls ≠ "java/lang/invoke/VarHandle" ∧ (parseMethodDescriptor (mt 183).1.desc).map (fun d => d.parameters.length) = some 1 := ⟨by decide +kernel, by decide +kernel, by decide +kernel⟩
theorem cl_183 : (mt 183).2.2.1 ≤ 17 := by decide
theorem cz_184 : (mt 184).2.2.2.2 = [] := rfl
theorem cc_184 : Cond.code (mt 184).1 (mt 184).2.1 (mt 184).2.2.1 (mt 184).2.2.2.1 ∈ lw_g := mG 929 (by decide +kernel) rfl
theorem ci_184 : Cond.initialized (mt 184).1.cls ∈ lw_g := w_39
theorem cm_184 : Cond.instanceMethod (mt 184).1 ∈ lw_g := w_927
theorem cs_184 : Cond.selects (mt 184).1.cls (mt 184).1 (mt 184).1 ∈ lw_g := w_928
theorem cd_184 : (mt 184).1.cls ≠ "java/lang/invoke/MethodHandle" ∧ (mt 184).1.cls ≠ "java/lang/invoke/VarHandle" ∧ (parseMethodDescriptor (mt 184).1.desc).map (fun d => d.parameters.length) = some 2 := ⟨by decide +kernel, by decide +kernel, by decide +kernel⟩
theorem cl_184 : (mt 184).2.2.1 ≤ 17 := by decide
theorem cz_186 : (mt 186).2.2.2.2 = [] := rfl
theorem cc_186 : Cond.code (mt 186).1 (mt 186).2.1 (mt 186).2.2.1 (mt 186).2.2.2.1 ∈ lw_g := mG 849 (by decide +kernel) rfl
theorem ci_186 : Cond.initialized (mt 186).1.cls ∈ lw_g := w_39
theorem cm_186 : Cond.instanceMethod (mt 186).1 ∈ lw_g := w_847
theorem cs_186 : Cond.selects (mt 186).1.cls (mt 186).1 (mt 186).1 ∈ lw_g := w_31
theorem cd_186 : (mt 186).1.cls ≠ "java/lang/invoke/MethodHandle" ∧ (mt 186).1.cls ≠ "java/lang/invoke/VarHandle" ∧ (parseMethodDescriptor (mt 186).1.desc).map (fun d => d.parameters.length) = some 1 := ⟨by decide +kernel, by decide +kernel, by decide +kernel⟩
theorem cl_186 : (mt 186).2.2.1 ≤ 17 := by decide
theorem cz_187 : (mt 187).2.2.2.2 = [] := rfl
theorem cc_187 : Cond.code (mt 187).1 (mt 187).2.1 (mt 187).2.2.1 (mt 187).2.2.2.1 ∈ lw_g := mG 854 (by decide +kernel) rfl
theorem ci_187 : Cond.initialized (mt 187).1.cls ∈ lw_g := w_39
theorem cm_187 : Cond.instanceMethod (mt 187).1 ∈ lw_g := w_853
theorem cs_187 : Cond.selects (mt 187).1.cls (mt 187).1 (mt 187).1 ∈ lw_g := w_32
theorem cd_187 : (mt 187).1.cls ≠ "java/lang/invoke/MethodHandle" ∧ (mt 187).1.cls ≠ "java/lang/invoke/VarHandle" ∧ (parseMethodDescriptor (mt 187).1.desc).map (fun d => d.parameters.length) = some 1 := ⟨by decide +kernel, by decide +kernel, by decide +kernel⟩
theorem cl_187 : (mt 187).2.2.1 ≤ 17 := by decide
theorem cz_188 : (mt 188).2.2.2.2 = [] := rfl
theorem cc_188 : Cond.code (mt 188).1 (mt 188).2.1 (mt 188).2.2.1 (mt 188).2.2.2.1 ∈ lw_g := mG 859 (by decide +kernel) rfl
theorem ci_188 : Cond.initialized (mt 188).1.cls ∈ lw_g := w_39
theorem cm_188 : Cond.instanceMethod (mt 188).1 ∈ lw_g := w_858
theorem cs_188 : Cond.selects (mt 188).1.cls (mt 188).1 (mt 188).1 ∈ lw_g := w_33
theorem cd_188 : (mt 188).1.cls ≠ "java/lang/invoke/MethodHandle" ∧ (mt 188).1.cls ≠ "java/lang/invoke/VarHandle" ∧ (parseMethodDescriptor (mt 188).1.desc).map (fun d => d.parameters.length) = some 1 := ⟨by decide +kernel, by decide +kernel, by decide +kernel⟩
theorem cl_188 : (mt 188).2.2.1 ≤ 17 := by decide
theorem cz_189 : (mt 189).2.2.2.2 = [] := rfl
theorem cc_189 : Cond.code (mt 189).1 (mt 189).2.1 (mt 189).2.2.1 (mt 189).2.2.2.1 ∈ lw_g := mG 879 (by decide +kernel) rfl
theorem ci_189 : Cond.initialized (mt 189).1.cls ∈ lw_g := w_39
theorem cm_189 : Cond.instanceMethod (mt 189).1 ∈ lw_g := w_878
theorem cs_189 : Cond.selects (mt 189).1.cls (mt 189).1 (mt 189).1 ∈ lw_g := w_34
theorem cd_189 : (mt 189).1.cls ≠ "java/lang/invoke/MethodHandle" ∧ (mt 189).1.cls ≠ "java/lang/invoke/VarHandle" ∧ (parseMethodDescriptor (mt 189).1.desc).map (fun d => d.parameters.length) = some 1 := ⟨by decide +kernel, by decide +kernel, by decide +kernel⟩
theorem cl_189 : (mt 189).2.2.1 ≤ 17 := by decide
theorem cz_190 : (mt 190).2.2.2.2 = [] := rfl
theorem cc_190 : Cond.code (mt 190).1 (mt 190).2.1 (mt 190).2.2.1 (mt 190).2.2.2.1 ∈ lw_g := mG 894 (by decide +kernel) rfl
theorem ci_190 : Cond.initialized (mt 190).1.cls ∈ lw_g := w_39
theorem cm_190 : Cond.instanceMethod (mt 190).1 ∈ lw_g := w_893
theorem cs_190 : Cond.selects (mt 190).1.cls (mt 190).1 (mt 190).1 ∈ lw_g := w_35
theorem cd_190 : (mt 190).1.cls ≠ "java/lang/invoke/MethodHandle" ∧ (mt 190).1.cls ≠ "java/lang/invoke/VarHandle" ∧ (parseMethodDescriptor (mt 190).1.desc).map (fun d => d.parameters.length) = some 2 := ⟨by decide +kernel, by decide +kernel, by decide +kernel⟩
theorem cl_190 : (mt 190).2.2.1 ≤ 17 := by decide
theorem cz_191 : (mt 191).2.2.2.2 = [] := rfl
theorem cc_191 : Cond.code (mt 191).1 (mt 191).2.1 (mt 191).2.2.1 (mt 191).2.2.2.1 ∈ lw_g := mG 843 (by decide +kernel) rfl
theorem ci_191 : Cond.initialized (mt 191).1.cls ∈ lw_g := w_39
theorem cm_191 : Cond.static (mt 191).1 ∈ lw_g := w_842
theorem cd_191 : (mt 191).1.cls ≠ "java/lang/invoke/MethodHandle" ∧ (mt 191).1.cls ≠ "java/lang/invoke/VarHandle" ∧ (parseMethodDescriptor (mt 191).1.desc).map (fun d => d.parameters.length) = some 2 := ⟨by decide +kernel, by decide +kernel, by decide +kernel⟩
theorem cl_191 : (mt 191).2.2.1 ≤ 17 := by decide
theorem cz_192 : (mt 192).2.2.2.2 = [] := rfl
theorem cc_192 : Cond.code (mt 192).1 (mt 192).2.1 (mt 192).2.2.1 (mt 192).2.2.2.1 ∈ lw_g := mG 399 (by decide +kernel) rfl
theorem ci_192 : Cond.initialized (mt 192).1.cls ∈ lw_g := w_39
theorem cm_192 : Cond.static (mt 192).1 ∈ lw_g := w_398
theorem cd_192 : (mt 192).1.cls ≠ "java/lang/invoke/MethodHandle" ∧ (mt 192).1.cls ≠ "java/lang/invoke/VarHandle" ∧ (parseMethodDescriptor (mt 192).1.desc).map (fun d => d.parameters.length) = some 2 := ⟨by decide +kernel, by decide +kernel, by decide +kernel⟩
theorem cl_192 : (mt 192).2.2.1 ≤ 17 := by decide
theorem cz_193 : (mt 193).2.2.2.2 = [] := rfl
theorem cc_193 : Cond.code (mt 193).1 (mt 193).2.1 (mt 193).2.2.1 (mt 193).2.2.2.1 ∈ lw_g := mG 201 (by decide +kernel) rfl
theorem ci_193 : Cond.initialized (mt 193).1.cls ∈ lw_g := w_39
theorem cm_193 : Cond.static (mt 193).1 ∈ lw_g := w_200
theorem cd_193 : (mt 193).1.cls ≠ "java/lang/invoke/MethodHandle" ∧ (mt 193).1.cls ≠ "java/lang/invoke/VarHandle" ∧ (parseMethodDescriptor (mt 193).1.desc).map (fun d => d.parameters.length) = some 1 := ⟨by decide +kernel, by decide +kernel, by decide +kernel⟩
theorem cl_193 : (mt 193).2.2.1 ≤ 17 := by decide
theorem cz_194 : (mt 194).2.2.2.2 = [] := rfl
theorem cc_194 : Cond.code (mt 194).1 (mt 194).2.1 (mt 194).2.2.1 (mt 194).2.2.2.1 ∈ lw_g := mG 168 (by decide +kernel) rfl
theorem ci_194 : Cond.initialized (mt 194).1.cls ∈ lw_g := w_39
theorem cm_194 : Cond.static (mt 194).1 ∈ lw_g := w_167
theorem cd_194 : (mt 194).1.cls ≠ "java/lang/invoke/MethodHandle" ∧ (mt 194).1.cls ≠ "java/lang/invoke/VarHandle" ∧ (parseMethodDescriptor (mt 194).1.desc).map (fun d => d.parameters.length) = some 1 := ⟨by decide +kernel, by decide +kernel, by decide +kernel⟩
theorem cl_194 : (mt 194).2.2.1 ≤ 17 := by decide
theorem cz_195 : (mt 195).2.2.2.2 = [] := rfl
theorem cc_195 : Cond.code (mt 195).1 (mt 195).2.1 (mt 195).2.2.1 (mt 195).2.2.2.1 ∈ lw_g := mG 255 (by decide +kernel) rfl
theorem ci_195 : Cond.initialized (mt 195).1.cls ∈ lw_g := w_39
theorem cm_195 : Cond.static (mt 195).1 ∈ lw_g := w_254
theorem cd_195 : (mt 195).1.cls ≠ "java/lang/invoke/MethodHandle" ∧ (mt 195).1.cls ≠ "java/lang/invoke/VarHandle" ∧ (parseMethodDescriptor (mt 195).1.desc).map (fun d => d.parameters.length) = some 1 := ⟨by decide +kernel, by decide +kernel, by decide +kernel⟩
theorem cl_195 : (mt 195).2.2.1 ≤ 17 := by decide
theorem cz_196 : (mt 196).2.2.2.2 = [] := rfl
theorem cc_196 : Cond.code (mt 196).1 (mt 196).2.1 (mt 196).2.2.1 (mt 196).2.2.2.1 ∈ lw_g := mG 211 (by decide +kernel) rfl
theorem ci_196 : Cond.initialized (mt 196).1.cls ∈ lw_g := w_39
theorem cm_196 : Cond.static (mt 196).1 ∈ lw_g := w_210
theorem cd_196 : (mt 196).1.cls ≠ "java/lang/invoke/MethodHandle" ∧ (mt 196).1.cls ≠ "java/lang/invoke/VarHandle" ∧ (parseMethodDescriptor (mt 196).1.desc).map (fun d => d.parameters.length) = some 2 := ⟨by decide +kernel, by decide +kernel, by decide +kernel⟩
theorem cl_196 : (mt 196).2.2.1 ≤ 17 := by decide
theorem cz_197 : (mt 197).2.2.2.2 = [] := rfl
theorem cc_197 : Cond.code (mt 197).1 (mt 197).2.1 (mt 197).2.2.1 (mt 197).2.2.2.1 ∈ lw_g := mG 485 (by decide +kernel) rfl
theorem ci_197 : Cond.initialized (mt 197).1.cls ∈ lw_g := w_39
theorem cm_197 : Cond.static (mt 197).1 ∈ lw_g := w_484
theorem cd_197 : (mt 197).1.cls ≠ "java/lang/invoke/MethodHandle" ∧ (mt 197).1.cls ≠ "java/lang/invoke/VarHandle" ∧ (parseMethodDescriptor (mt 197).1.desc).map (fun d => d.parameters.length) = some 2 := ⟨by decide +kernel, by decide +kernel, by decide +kernel⟩
theorem cl_197 : (mt 197).2.2.1 ≤ 17 := by decide
theorem cz_198 : (mt 198).2.2.2.2 = [] := rfl
theorem cc_198 : Cond.code (mt 198).1 (mt 198).2.1 (mt 198).2.2.1 (mt 198).2.2.2.1 ∈ lw_g := mG 1464 (by decide +kernel) rfl
theorem ci_198 : Cond.initialized (mt 198).1.cls ∈ lw_g := w_39
theorem cm_198 : Cond.instanceMethod (mt 198).1 ∈ lw_g := w_1463
theorem cs_198 : Cond.selects (mt 198).1.cls (mt 198).1 (mt 198).1 ∈ lw_g := w_36
theorem cd_198 : (mt 198).1.cls ≠ "java/lang/invoke/MethodHandle" ∧ (mt 198).1.cls ≠ "java/lang/invoke/VarHandle" ∧ (parseMethodDescriptor (mt 198).1.desc).map (fun d => d.parameters.length) = some 5 := ⟨by decide +kernel, by decide +kernel, by decide +kernel⟩
theorem cl_198 : (mt 198).2.2.1 ≤ 17 := by decide
theorem cz_200 : (mt 200).2.2.2.2 = [] := rfl
theorem cc_200 : Cond.code (mt 200).1 (mt 200).2.1 (mt 200).2.2.1 (mt 200).2.2.2.1 ∈ lw_g := mG 1416 (by decide +kernel) rfl
theorem ci_200 : Cond.initialized (mt 200).1.cls ∈ lw_g := w_38
theorem cm_200 : Cond.instanceMethod (mt 200).1 ∈ lw_g := w_1414
theorem cs_200 : Cond.selects (mt 200).1.cls (mt 200).1 (mt 200).1 ∈ lw_g := w_1415
theorem cd_200 : (mt 200).1.cls ≠ "java/lang/invoke/MethodHandle" ∧ (mt 200).1.cls ≠ "java/lang/invoke/VarHandle" ∧ (parseMethodDescriptor (mt 200).1.desc).map (fun d => d.parameters.length) = some 1 := ⟨by decide +kernel, by decide +kernel, by decide +kernel⟩
theorem cl_200 : (mt 200).2.2.1 ≤ 17 := by decide
theorem cz_201 : (mt 201).2.2.2.2 = [] := rfl
theorem cc_201 : Cond.code (mt 201).1 (mt 201).2.1 (mt 201).2.2.1 (mt 201).2.2.2.1 ∈ lw_g := mG 1427 (by decide +kernel) rfl
theorem ci_201 : Cond.initialized (mt 201).1.cls ∈ lw_g := w_38
theorem cm_201 : Cond.static (mt 201).1 ∈ lw_g := w_1426
theorem cd_201 : (mt 201).1.cls ≠ "java/lang/invoke/MethodHandle" ∧ (mt 201).1.cls ≠ "java/lang/invoke/VarHandle" ∧ (parseMethodDescriptor (mt 201).1.desc).map (fun d => d.parameters.length) = some 2 := ⟨by decide +kernel, by decide +kernel, by decide +kernel⟩
theorem cl_201 : (mt 201).2.2.1 ≤ 17 := by decide
theorem cz_202 : (mt 202).2.2.2.2 = [] := rfl
theorem cc_202 : Cond.code (mt 202).1 (mt 202).2.1 (mt 202).2.2.1 (mt 202).2.2.2.1 ∈ lw_g := mG 1433 (by decide +kernel) rfl
theorem ci_202 : Cond.initialized (mt 202).1.cls ∈ lw_g := w_38
theorem cm_202 : Cond.static (mt 202).1 ∈ lw_g := w_1432
theorem cd_202 : (mt 202).1.cls ≠ "java/lang/invoke/MethodHandle" ∧ (mt 202).1.cls ≠ "java/lang/invoke/VarHandle" ∧ (parseMethodDescriptor (mt 202).1.desc).map (fun d => d.parameters.length) = some 2 := ⟨by decide +kernel, by decide +kernel, by decide +kernel⟩
theorem cl_202 : (mt 202).2.2.1 ≤ 17 := by decide
theorem cz_203 : (mt 203).2.2.2.2 = [] := rfl
theorem cc_203 : Cond.code (mt 203).1 (mt 203).2.1 (mt 203).2.2.1 (mt 203).2.2.2.1 ∈ lw_g := mG 1534 (by decide +kernel) rfl
theorem ci_203 : Cond.initialized (mt 203).1.cls ∈ lw_g := w_38
theorem cm_203 : Cond.instanceMethod (mt 203).1 ∈ lw_g := w_1532
theorem cs_203 : Cond.selects (mt 203).1.cls (mt 203).1 (mt 203).1 ∈ lw_g := w_1533
theorem cd_203 : (mt 203).1.cls ≠ "java/lang/invoke/MethodHandle" ∧ (mt 203).1.cls ≠ "java/lang/invoke/VarHandle" ∧ (parseMethodDescriptor (mt 203).1.desc).map (fun d => d.parameters.length) = some 0 := ⟨by decide +kernel, by decide +kernel, by decide +kernel⟩
theorem cl_203 : (mt 203).2.2.1 ≤ 17 := by decide
theorem cz_204 : (mt 204).2.2.2.2 = [] := rfl
theorem cc_204 : Cond.code (mt 204).1 (mt 204).2.1 (mt 204).2.2.1 (mt 204).2.2.2.1 ∈ lw_g := mG 1437 (by decide +kernel) rfl
theorem ci_204 : Cond.initialized (mt 204).1.cls ∈ lw_g := w_38
theorem cm_204 : Cond.instanceMethod (mt 204).1 ∈ lw_g := w_1435
theorem cs_204 : Cond.selects (mt 204).1.cls (mt 204).1 (mt 204).1 ∈ lw_g := w_1436
theorem cd_204 : (mt 204).1.cls ≠ "java/lang/invoke/MethodHandle" ∧ (mt 204).1.cls ≠ "java/lang/invoke/VarHandle" ∧ (parseMethodDescriptor (mt 204).1.desc).map (fun d => d.parameters.length) = some 0 := ⟨by decide +kernel, by decide +kernel, by decide +kernel⟩
theorem cl_204 : (mt 204).2.2.1 ≤ 17 := by decide
theorem cz_205 : (mt 205).2.2.2.2 = [] := rfl
theorem cc_205 : Cond.code (mt 205).1 (mt 205).2.1 (mt 205).2.2.1 (mt 205).2.2.2.1 ∈ lw_g := mG 1480 (by decide +kernel) rfl
theorem ci_205 : Cond.initialized (mt 205).1.cls ∈ lw_g := w_38
theorem cm_205 : Cond.instanceMethod (mt 205).1 ∈ lw_g := w_1478
theorem cs_205 : Cond.selects (mt 205).1.cls (mt 205).1 (mt 205).1 ∈ lw_g := w_1479
theorem cd_205 : (mt 205).1.cls ≠ "java/lang/invoke/MethodHandle" ∧ (mt 205).1.cls ≠ "java/lang/invoke/VarHandle" ∧ (parseMethodDescriptor (mt 205).1.desc).map (fun d => d.parameters.length) = some 2 := ⟨by decide +kernel, by decide +kernel, by decide +kernel⟩
theorem cl_205 : (mt 205).2.2.1 ≤ 17 := by decide
theorem cz_206 : (mt 206).2.2.2.2 = [] := rfl
theorem cc_206 : Cond.code (mt 206).1 (mt 206).2.1 (mt 206).2.2.1 (mt 206).2.2.2.1 ∈ lw_g := mG 1476 (by decide +kernel) rfl
theorem ci_206 : Cond.initialized (mt 206).1.cls ∈ lw_g := w_38
theorem cm_206 : Cond.instanceMethod (mt 206).1 ∈ lw_g := w_1474
theorem cs_206 : Cond.selects (mt 206).1.cls (mt 206).1 (mt 206).1 ∈ lw_g := w_1475
theorem cd_206 : (mt 206).1.cls ≠ "java/lang/invoke/MethodHandle" ∧ (mt 206).1.cls ≠ "java/lang/invoke/VarHandle" ∧ (parseMethodDescriptor (mt 206).1.desc).map (fun d => d.parameters.length) = some 0 := ⟨by decide +kernel, by decide +kernel, by decide +kernel⟩
theorem cl_206 : (mt 206).2.2.1 ≤ 17 := by decide
theorem cz_207 : (mt 207).2.2.2.2 = [] := rfl
theorem cc_207 : Cond.code (mt 207).1 (mt 207).2.1 (mt 207).2.2.1 (mt 207).2.2.2.1 ∈ lw_g := mG 1494 (by decide +kernel) rfl
theorem ci_207 : Cond.initialized (mt 207).1.cls ∈ lw_g := w_38
theorem cm_207 : Cond.instanceMethod (mt 207).1 ∈ lw_g := w_1492
theorem cs_207 : Cond.selects (mt 207).1.cls (mt 207).1 (mt 207).1 ∈ lw_g := w_1493
theorem cd_207 : (mt 207).1.cls ≠ "java/lang/invoke/MethodHandle" ∧ (mt 207).1.cls ≠ "java/lang/invoke/VarHandle" ∧ (parseMethodDescriptor (mt 207).1.desc).map (fun d => d.parameters.length) = some 0 := ⟨by decide +kernel, by decide +kernel, by decide +kernel⟩
theorem cl_207 : (mt 207).2.2.1 ≤ 17 := by decide
theorem cz_209 : (mt 209).2.2.2.2 = [] := rfl
theorem cc_209 : Cond.code (mt 209).1 (mt 209).2.1 (mt 209).2.2.1 (mt 209).2.2.2.1 ∈ lw_g := mG 227 (by decide +kernel) rfl
theorem ci_209 : Cond.initialized (mt 209).1.cls ∈ lw_g := w_58
theorem cm_209 : Cond.static (mt 209).1 ∈ lw_g := w_226
theorem cd_209 : (mt 209).1.cls ≠ "java/lang/invoke/MethodHandle" ∧ (mt 209).1.cls ≠ "java/lang/invoke/VarHandle" ∧ (parseMethodDescriptor (mt 209).1.desc).map (fun d => d.parameters.length) = some 1 := ⟨by decide +kernel, by decide +kernel, by decide +kernel⟩
theorem cl_209 : (mt 209).2.2.1 ≤ 17 := by decide
theorem cz_210 : (mt 210).2.2.2.2 = [] := rfl
theorem cc_210 : Cond.code (mt 210).1 (mt 210).2.1 (mt 210).2.2.1 (mt 210).2.2.2.1 ∈ lw_g := mG 536 (by decide +kernel) rfl
theorem ci_210 : Cond.initialized (mt 210).1.cls ∈ lw_g := w_59
theorem cm_210 : Cond.static (mt 210).1 ∈ lw_g := w_535
theorem cd_210 : (mt 210).1.cls ≠ "java/lang/invoke/MethodHandle" ∧ (mt 210).1.cls ≠ "java/lang/invoke/VarHandle" ∧ (parseMethodDescriptor (mt 210).1.desc).map (fun d => d.parameters.length) = some 1 := ⟨by decide +kernel, by decide +kernel, by decide +kernel⟩
theorem cl_210 : (mt 210).2.2.1 ≤ 17 := by decide
theorem cz_211 : (mt 211).2.2.2.2 = [] := rfl
theorem cc_211 : Cond.code (mt 211).1 (mt 211).2.1 (mt 211).2.2.1 (mt 211).2.2.2.1 ∈ lw_g := mG 347 (by decide +kernel) rfl
theorem ci_211 : Cond.initialized (mt 211).1.cls ∈ lw_g := w_59
theorem cm_211 : Cond.static (mt 211).1 ∈ lw_g := w_346
theorem cd_211 : (mt 211).1.cls ≠ "java/lang/invoke/MethodHandle" ∧ (mt 211).1.cls ≠ "java/lang/invoke/VarHandle" ∧ (parseMethodDescriptor (mt 211).1.desc).map (fun d => d.parameters.length) = some 2 := ⟨by decide +kernel, by decide +kernel, by decide +kernel⟩
theorem cl_211 : (mt 211).2.2.1 ≤ 17 := by decide
theorem cz_212 : (mt 212).2.2.2.2 = [] := rfl
theorem cc_212 : Cond.code (mt 212).1 (mt 212).2.1 (mt 212).2.2.1 (mt 212).2.2.2.1 ∈ lw_g := mG 1423 (by decide +kernel) rfl
theorem ci_212 : Cond.initialized (mt 212).1.cls ∈ lw_g := w_37
theorem cm_212 : Cond.static (mt 212).1 ∈ lw_g := w_1422
theorem cd_212 : (mt 212).1.cls ≠ "java/lang/invoke/MethodHandle" ∧ (mt 212).1.cls ≠ "java/lang/invoke/VarHandle" ∧ (parseMethodDescriptor (mt 212).1.desc).map (fun d => d.parameters.length) = some 2 := ⟨by decide +kernel, by decide +kernel, by decide +kernel⟩
theorem cl_212 : (mt 212).2.2.1 ≤ 17 := by decide
theorem cz_213 : (mt 213).2.2.2.2 = [] := rfl
theorem cc_213 : Cond.code (mt 213).1 (mt 213).2.1 (mt 213).2.2.1 (mt 213).2.2.2.1 ∈ lw_g := mG 1419 (by decide +kernel) rfl
theorem ci_213 : Cond.initialized (mt 213).1.cls ∈ lw_g := w_37
theorem cm_213 : Cond.static (mt 213).1 ∈ lw_g := w_1418
theorem cd_213 : (mt 213).1.cls ≠ "java/lang/invoke/MethodHandle" ∧ (mt 213).1.cls ≠ "java/lang/invoke/VarHandle" ∧ (parseMethodDescriptor (mt 213).1.desc).map (fun d => d.parameters.length) = some 2 := ⟨by decide +kernel, by decide +kernel, by decide +kernel⟩
theorem cl_213 : (mt 213).2.2.1 ≤ 17 := by decide
