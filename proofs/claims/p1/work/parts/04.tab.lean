def ev_tr {α : Type} (k : Nat) (a b : Nat → α) : Nat → α := fun y => bif Nat.ble k y then b y else a y
def mt : Nat → MethodName × ByteArray × Nat × Option FieldType × List (Nat × Nat × Nat × Nat) := (ev_tr 159 (ev_tr 79 (ev_tr 39 (ev_tr 19 (ev_tr 9 (ev_tr 4 (ev_tr 2 (ev_tr 1 (fun _ => (yX0_init, cX0_init, 1, none, [])) (fun _ => (yX0_count, cX0_count, 1, (some .int), []))) (ev_tr 3 (fun _ => (yX0_forget, cX0_forget, 1, none, [])) (fun _ => (yX0_add, cX0_add, 6, none, [])))) (ev_tr 6 (ev_tr 5 (fun _ => (yX0_part, cX0_part, 3, (some .int), [])) (fun _ => (yX1_init, cX1_init, 1, none, []))) (ev_tr 7 (fun _ => (yX1_clearUpTo, cX1_clearUpTo, 3, none, [])) (ev_tr 8 (fun _ => (yX1_put, cX1_put, 3, none, [])) (fun _ => (yX1_read, cX1_read, 2, (some .int), [])))))) (ev_tr 14 (ev_tr 11 (ev_tr 10 (fun _ => (yX2_init, cX2_init, 1, none, [])) (fun _ => (yX2_count, cX2_count, 1, (some .int), []))) (ev_tr 12 (fun _ => (yX2_isFull, cX2_isFull, 1, (some .boolean), [])) (ev_tr 13 (fun _ => (yX2_add, cX2_add, 3, (some .int), [])) (fun _ => (yX2_removeAll, cX2_removeAll, 2, (some .int), []))))) (ev_tr 16 (ev_tr 15 (fun _ => (yX2_hasAny, cX2_hasAny, 3, (some .boolean), [])) (fun _ => (yX2_itemOf, cX2_itemOf, 3, (some .int), []))) (ev_tr 17 (fun _ => (yX2_set, cX2_set, 2, (some .int), [])) (ev_tr 18 (fun _ => (yX2_isPlain, cX2_isPlain, 2, (some .boolean), [])) (fun _ => (yX2_joinsAhead, cX2_joinsAhead, 2, (some .boolean), []))))))) (ev_tr 29 (ev_tr 24 (ev_tr 21 (ev_tr 20 (fun _ => (yX2_groupEnd, cX2_groupEnd, 3, (some .int), [])) (fun _ => (yX3_init, cX3_init, 6, none, []))) (ev_tr 22 (fun _ => (yX3_size, cX3_size, 1, (some .int), [])) (ev_tr 23 (fun _ => (yX3_used, cX3_used, 1, (some .int), [])) (fun _ => (yX3_laid, cX3_laid, 1, (some .int), []))))) (ev_tr 26 (ev_tr 25 (fun _ => (yX3_sectionAt, cX3_sectionAt, 2, (some .int), [])) (fun _ => (yX3_addressOf, cX3_addressOf, 2, (some .int), []))) (ev_tr 27 (fun _ => (yX3_wordsOf, cX3_wordsOf, 2, (some .int), [])) (ev_tr 28 (fun _ => (yX3_longsOf, cX3_longsOf, 2, (some .int), [])) (fun _ => (yX3_countLongs, cX3_countLongs, 3, (some .int), [])))))) (ev_tr 34 (ev_tr 31 (ev_tr 30 (fun _ => (yX3_addressOfName, cX3_addressOfName, 2, (some .int), [])) (fun _ => (yX3_standsFor, cX3_standsFor, 2, (some .int), []))) (ev_tr 32 (fun _ => (yX3_width, cX3_width, 3, (some .int), [])) (ev_tr 33 (fun _ => (yX3_layOut, cX3_layOut, 3, none, [])) (fun _ => (yX3_orderSections, cX3_orderSections, 4, none, []))))) (ev_tr 36 (ev_tr 35 (fun _ => (yX3_append, cX3_append, 3, none, [])) (fun _ => (yX3_placeSections, cX3_placeSections, 3, none, []))) (ev_tr 37 (fun _ => (yX3_placeCommons, cX3_placeCommons, 2, none, [])) (ev_tr 38 (fun _ => (yX3_addressNames, cX3_addressNames, 3, none, [])) (fun _ => (yX3_wordsAhead, cX3_wordsAhead, 5, (some .int), [])))))))) (ev_tr 59 (ev_tr 49 (ev_tr 44 (ev_tr 41 (ev_tr 40 (fun _ => (yX3_lengthenAll, cX3_lengthenAll, 4, (some .boolean), [])) (fun _ => (yX3_lengthenIn, cX3_lengthenIn, 8, (some .boolean), []))) (ev_tr 42 (fun _ => (yX4_init, cX4_init, 2, none, [])) (ev_tr 43 (fun _ => (yX4_count, cX4_count, 1, (some .int), [])) (fun _ => (yX4_isFull, cX4_isFull, 1, (some .boolean), []))))) (ev_tr 46 (ev_tr 45 (fun _ => (yX4_has, cX4_has, 2, (some .boolean), [])) (fun _ => (yX4_size, cX4_size, 2, (some .int), []))) (ev_tr 47 (fun _ => (yX4_needs, cX4_needs, 2, (some .int), [])) (ev_tr 48 (fun _ => (yX4_exports, cX4_exports, 2, (some .int), [])) (fun _ => (yX4_imports, cX4_imports, 2, (some .int), [])))))) (ev_tr 54 (ev_tr 51 (ev_tr 50 (fun _ => (yX4_opened, cX4_opened, 2, (some .int), [])) (fun _ => (yX4_base, cX4_base, 2, (some .int), []))) (ev_tr 52 (fun _ => (yX4_isLoaded, cX4_isLoaded, 2, (some .boolean), [])) (ev_tr 53 (fun _ => (yX4_isExport, cX4_isExport, 3, (some .boolean), [])) (fun _ => (yX4_isImport, cX4_isImport, 3, (some .boolean), []))))) (ev_tr 56 (ev_tr 55 (fun _ => (yX4_exportAddress, cX4_exportAddress, 3, (some .int), [])) (fun _ => (yX4_boundTo, cX4_boundTo, 3, (some .int), []))) (ev_tr 57 (fun _ => (yX4_boundAddress, cX4_boundAddress, 4, (some .int), [])) (ev_tr 58 (fun _ => (yX4_placeAmongGlobal, cX4_placeAmongGlobal, 2, (some .int), [])) (fun _ => (yX4_placeAmongInitialised, cX4_placeAmongInitialised, 2, (some .int), []))))))) (ev_tr 69 (ev_tr 64 (ev_tr 61 (ev_tr 60 (fun _ => (yX4_placeIn, cX4_placeIn, 4, (some .int), [])) (fun _ => (yX4_countLoaded, cX4_countLoaded, 1, (some .int), []))) (ev_tr 62 (fun _ => (yX4_countGlobal, cX4_countGlobal, 1, (some .int), [])) (ev_tr 63 (fun _ => (yX4_countBindings, cX4_countBindings, 3, (some .int), [])) (fun _ => (yX4_add, cX4_add, 6, (some .int), []))))) (ev_tr 66 (ev_tr 65 (fun _ => (yX4_neededNow, cX4_neededNow, 2, (some .int), [])) (fun _ => (yX4_loaded, cX4_loaded, 3, (some .int), []))) (ev_tr 67 (fun _ => (yX4_fillRow, cX4_fillRow, 6, (some .int), [])) (ev_tr 68 (fun _ => (yX4_openOne, cX4_openOne, 6, (some .int), [])) (fun _ => (yX4_load, cX4_load, 4, none, [])))))) (ev_tr 74 (ev_tr 71 (ev_tr 70 (fun _ => (yX4_makeGlobal, cX4_makeGlobal, 2, none, [])) (fun _ => (yX4_initialise, cX4_initialise, 8, none, []))) (ev_tr 72 (fun _ => (yX4_lowestOf, cX4_lowestOf, 2, (some .int), [])) (ev_tr 73 (fun _ => (yX4_closeOne, cX4_closeOne, 3, (some .int), [])) (fun _ => (yX4_leavingBy, cX4_leavingBy, 5, (some .int), []))))) (ev_tr 76 (ev_tr 75 (fun _ => (yX4_finish, cX4_finish, 5, none, [])) (fun _ => (yX4_without, cX4_without, 5, (some .int), []))) (ev_tr 77 (fun _ => (yX4_bind, cX4_bind, 4, (some .int), [])) (ev_tr 78 (fun _ => (yX4_firstExporter, cX4_firstExporter, 5, (some .int), [])) (fun _ => (yX5_init, cX5_init, 4, none, []))))))))) (ev_tr 119 (ev_tr 99 (ev_tr 89 (ev_tr 84 (ev_tr 81 (ev_tr 80 (fun _ => (yX5_isDone, cX5_isDone, 1, (some .boolean), [])) (fun _ => (yX5_isShared, cX5_isShared, 1, (some .boolean), []))) (ev_tr 82 (fun _ => (yX5_entry, cX5_entry, 1, (some .int), [])) (ev_tr 83 (fun _ => (yX5_run, cX5_run, 6, none, [])) (fun _ => (yX5_tellFaults, cX5_tellFaults, 5, none, []))))) (ev_tr 86 (ev_tr 85 (fun _ => (yX5_tellFaultsOf, cX5_tellFaultsOf, 6, none, [])) (fun _ => (yX5_writeTo, cX5_writeTo, 6, none, []))) (ev_tr 87 (fun _ => (yX5_writePiece, cX5_writePiece, 6, none, [])) (ev_tr 88 (fun _ => (yX6_init, cX6_init, 1, none, [])) (fun _ => (yX6_count, cX6_count, 1, (some .int), [])))))) (ev_tr 94 (ev_tr 91 (ev_tr 90 (fun _ => (yX6_isFull, cX6_isFull, 1, (some .boolean), [])) (fun _ => (yX6_has, cX6_has, 2, (some .boolean), []))) (ev_tr 92 (fun _ => (yX6_hasAll, cX6_hasAll, 2, (some .boolean), [])) (ev_tr 93 (fun _ => (yX6_add, cX6_add, 2, (some .int), [])) (fun _ => (yX6_defined, cX6_defined, 2, (some .int), []))))) (ev_tr 96 (ev_tr 95 (fun _ => (yX6_offered, cX6_offered, 2, (some .int), [])) (fun _ => (yX6_needed, cX6_needed, 2, (some .int), []))) (ev_tr 97 (fun _ => (yX6_need, cX6_need, 3, none, [])) (ev_tr 98 (fun _ => (yX6_addDefinition, cX6_addDefinition, 7, none, [])) (fun _ => (yX6_hide, cX6_hide, 3, none, []))))))) (ev_tr 109 (ev_tr 104 (ev_tr 101 (ev_tr 100 (fun _ => (yX6_addCommon, cX6_addCommon, 5, none, [])) (fun _ => (yX6_kind, cX6_kind, 3, (some .int), []))) (ev_tr 102 (fun _ => (yX6_sectionOf, cX6_sectionOf, 3, (some .int), [])) (ev_tr 103 (fun _ => (yX6_placeOf, cX6_placeOf, 3, (some .int), [])) (fun _ => (yX6_size, cX6_size, 3, (some .int), []))))) (ev_tr 106 (ev_tr 105 (fun _ => (yX6_align, cX6_align, 3, (some .int), [])) (fun _ => (yX6_isHidden, cX6_isHidden, 3, (some .boolean), []))) (ev_tr 107 (fun _ => (yX7_init, cX7_init, 4, none, [])) (ev_tr 108 (fun _ => (yX7_hasSection, cX7_hasSection, 2, (some .boolean), [])) (fun _ => (yX7_hasCommon, cX7_hasCommon, 2, (some .boolean), [])))))) (ev_tr 114 (ev_tr 111 (ev_tr 110 (fun _ => (yX7_countSections, cX7_countSections, 1, (some .int), [])) (fun _ => (yX7_imports, cX7_imports, 1, (some .int), []))) (ev_tr 112 (fun _ => (yX7_isImport, cX7_isImport, 2, (some .boolean), [])) (ev_tr 113 (fun _ => (yX7_references, cX7_references, 2, (some .int), [])) (fun _ => (yX7_reachAll, cX7_reachAll, 4, none, []))))) (ev_tr 116 (ev_tr 115 (fun _ => (yX7_forget, cX7_forget, 2, none, [])) (fun _ => (yX7_follow, cX7_follow, 5, none, []))) (ev_tr 117 (fun _ => (yX7_reachName, cX7_reachName, 3, none, [])) (ev_tr 118 (fun _ => (yX7_reachSection, cX7_reachSection, 2, none, [])) (fun _ => (yX8_init, cX8_init, 1, none, [])))))))) (ev_tr 139 (ev_tr 129 (ev_tr 124 (ev_tr 121 (ev_tr 120 (fun _ => (yX8_count, cX8_count, 1, (some .int), [])) (fun _ => (yX8_isFull, cX8_isFull, 1, (some .boolean), []))) (ev_tr 122 (fun _ => (yX8_has, cX8_has, 2, (some .boolean), [])) (ev_tr 123 (fun _ => (yX8_add, cX8_add, 4, (some .int), [])) (fun _ => (yX8_isFilled, cX8_isFilled, 2, (some .boolean), []))))) (ev_tr 126 (ev_tr 125 (fun _ => (yX8_addPiece, cX8_addPiece, 8, (some .int), [])) (fun _ => (yX8_objectOf, cX8_objectOf, 2, (some .int), []))) (ev_tr 127 (fun _ => (yX8_align, cX8_align, 2, (some .int), [])) (ev_tr 128 (fun _ => (yX8_isKept, cX8_isKept, 2, (some .boolean), [])) (fun _ => (yX8_pieces, cX8_pieces, 2, (some .int), [])))))) (ev_tr 134 (ev_tr 131 (ev_tr 130 (fun _ => (yX8_countOf, cX8_countOf, 4, (some .int), [])) (fun _ => (yX8_hasPiece, cX8_hasPiece, 3, (some .boolean), []))) (ev_tr 132 (fun _ => (yX8_kind, cX8_kind, 3, (some .int), [])) (ev_tr 133 (fun _ => (yX8_isReference, cX8_isReference, 3, (some .boolean), [])) (fun _ => (yX8_words, cX8_words, 4, (some .int), []))))) (ev_tr 136 (ev_tr 135 (fun _ => (yX8_name, cX8_name, 3, (some .int), [])) (fun _ => (yX8_added, cX8_added, 3, (some .int), []))) (ev_tr 137 (fun _ => (yX8_isWeak, cX8_isWeak, 3, (some .boolean), [])) (ev_tr 138 (fun _ => (yX9_init, cX9_init, 3, none, [])) (fun _ => (yX9_forget, cX9_forget, 2, none, []))))))) (ev_tr 149 (ev_tr 144 (ev_tr 141 (ev_tr 140 (fun _ => (yX9_settle, cX9_settle, 3, none, [])) (fun _ => (yX9_weigh, cX9_weigh, 4, none, []))) (ev_tr 142 (fun _ => (yX9_adopt, cX9_adopt, 4, none, [])) (ev_tr 143 (fun _ => (yX9_kind, cX9_kind, 2, (some .int), [])) (fun _ => (yX9_objectOf, cX9_objectOf, 2, (some .int), []))))) (ev_tr 146 (ev_tr 145 (fun _ => (yX9_sectionOf, cX9_sectionOf, 2, (some .int), [])) (fun _ => (yX9_placeOf, cX9_placeOf, 2, (some .int), []))) (ev_tr 147 (fun _ => (yX9_isHidden, cX9_isHidden, 2, (some .boolean), [])) (ev_tr 148 (fun _ => (yX9_size, cX9_size, 2, (some .int), [])) (fun _ => (yX9_align, cX9_align, 2, (some .int), [])))))) (ev_tr 154 (ev_tr 151 (ev_tr 150 (fun _ => (yX9_isTwiceStrong, cX9_isTwiceStrong, 2, (some .boolean), [])) (fun _ => (yX10_init, cX10_init, 3, none, []))) (ev_tr 152 (fun _ => (yX10_count, cX10_count, 1, (some .int), [])) (ev_tr 153 (fun _ => (yX10_objectAt, cX10_objectAt, 2, (some .int), [])) (fun _ => (yX10_placeOf, cX10_placeOf, 3, (some .int), []))))) (ev_tr 156 (ev_tr 155 (fun _ => (yX10_isTaken, cX10_isTaken, 2, (some .boolean), [])) (fun _ => (yX10_take, cX10_take, 5, none, []))) (ev_tr 157 (fun _ => (yX10_takeAll, cX10_takeAll, 3, none, [])) (ev_tr 158 (fun _ => (yX10_takeGroup, cX10_takeGroup, 7, none, [])) (fun _ => (yX10_takeWanted, cX10_takeWanted, 3, none, [])))))))))) (ev_tr 239 (ev_tr 199 (ev_tr 179 (ev_tr 169 (ev_tr 164 (ev_tr 161 (ev_tr 160 (fun _ => (yX10_add, cX10_add, 2, none, [])) (fun _ => (yX11_init, cX11_init, 1, none, []))) (ev_tr 162 (fun _ => (yX11_object, cX11_object, 1, (some .int), [])) (ev_tr 163 (fun _ => (yX11_section, cX11_section, 4, (some .int), [])) (fun _ => (yX11_fill, cX11_fill, 3, (some .int), []))))) (ev_tr 166 (ev_tr 165 (fun _ => (yX11_word, cX11_word, 5, (some .int), [])) (fun _ => (yX11_jump, cX11_jump, 4, (some .int), []))) (ev_tr 167 (fun _ => (yX11_define, cX11_define, 7, (some .int), [])) (ev_tr 168 (fun _ => (yX11_common, cX11_common, 5, (some .int), [])) (fun _ => (yX11_item, cX11_item, 3, (some .int), [])))))) (ev_tr 174 (ev_tr 171 (ev_tr 170 (fun _ => (yX11_clear, cX11_clear, 1, (some .int), [])) (fun _ => (yX11_ofObject, cX11_ofObject, 3, (some .int), []))) (ev_tr 172 (fun _ => (yX11_bounds, cX11_bounds, 4, (some .int), [])) (ev_tr 173 (fun _ => (yX11_link, cX11_link, 3, (some .int), [])) (fun _ => (yX11_ofSection, cX11_ofSection, 3, (some .int), []))))) (ev_tr 176 (ev_tr 175 (fun _ => (yX11_ofName, cX11_ofName, 3, (some .int), [])) (fun _ => (yX11_fault, cX11_fault, 3, (some .int), []))) (ev_tr 177 (fun _ => (yX11_wordAt, cX11_wordAt, 2, (some .int), [])) (ev_tr 178 (fun _ => (yX11_publish, cX11_publish, 2, (some .int), [])) (fun _ => (yX11_open, cX11_open, 3, (some .int), []))))))) (ev_tr 189 (ev_tr 184 (ev_tr 181 (ev_tr 180 (fun _ => (yX11_close, cX11_close, 2, (some .int), [])) (fun _ => (yX11_call, cX11_call, 3, (some .int), []))) (ev_tr 182 (fun _ => (yX11_ofBinding, cX11_ofBinding, 4, (some .int), [])) (ev_tr 183 (fun _ => (yX11_ofLibrary, cX11_ofLibrary, 3, (some .int), [])) (fun _ => (yX11_many, cX11_many, 2, (some .int), []))))) (ev_tr 186 (ev_tr 185 (fun _ => (yX11_usedPart, cX11_usedPart, 2, (some .double), [])) (fun _ => (yX11_sizeWith, cX11_sizeWith, 2, (some .int), []))) (ev_tr 187 (fun _ => (yX11_faultsWithout, cX11_faultsWithout, 2, (some .int), [])) (ev_tr 188 (fun _ => (yX11_goes, cX11_goes, 2, (some .int), [])) (fun _ => (yX11_wouldBind, cX11_wouldBind, 3, (some .int), [])))))) (ev_tr 194 (ev_tr 191 (ev_tr 190 (fun _ => (yX11_digest, cX11_digest, 4, (some .long), [])) (fun _ => (yX11_mixObjects, cX11_mixObjects, 7, (some .long), []))) (ev_tr 192 (fun _ => (yX11_mixSections, cX11_mixSections, 7, (some .long), [])) (ev_tr 193 (fun _ => (yX11_mixNames, cX11_mixNames, 7, (some .long), [])) (fun _ => (yX11_mixFaults, cX11_mixFaults, 7, (some .long), []))))) (ev_tr 196 (ev_tr 195 (fun _ => (yX11_mixLibrary, cX11_mixLibrary, 8, (some .long), [])) (fun _ => (yX11_mix, cX11_mix, 4, (some .long), []))) (ev_tr 197 (fun _ => (yX11_isIn, cX11_isIn, 2, (some .boolean), [])) (ev_tr 198 (fun _ => (yX11_isName, cX11_isName, 1, (some .boolean), [])) (fun _ => (yX11_isAlign, cX11_isAlign, 1, (some .boolean), [])))))))) (ev_tr 219 (ev_tr 209 (ev_tr 204 (ev_tr 201 (ev_tr 200 (fun _ => (yX11_isReach, cX11_isReach, 1, (some .boolean), [])) (fun _ => (yX11_hasBit, cX11_hasBit, 2, (some .boolean), []))) (ev_tr 202 (fun _ => (yX11_roundUp, cX11_roundUp, 2, (some .int), [])) (ev_tr 203 (fun _ => (yX11_addReference, cX11_addReference, 6, (some .int), [])) (fun _ => (yX12_init, cX12_init, 8, none, []))))) (ev_tr 206 (ev_tr 205 (fun _ => (yX12_endOf, cX12_endOf, 3, (some .int), [])) (fun _ => (yX12_take, cX12_take, 7, none, []))) (ev_tr 207 (fun _ => (yX12_isDrawn, cX12_isDrawn, 3, (some .boolean), [])) (ev_tr 208 (fun _ => (yX12_isWanted, cX12_isWanted, 4, (some .boolean), [])) (fun _ => (yX12_nameAt, cX12_nameAt, 3, (some .int), [])))))) (ev_tr 214 (ev_tr 211 (ev_tr 210 (fun _ => (yX12_firstWith, cX12_firstWith, 4, (some .int), [])) (fun _ => (yX12_settle, cX12_settle, 5, none, []))) (ev_tr 212 (fun _ => (yX12_fault, cX12_fault, 6, none, [])) (ev_tr 213 (fun _ => (yX12_sectionOf, cX12_sectionOf, 2, (some .int), [])) (fun _ => (yX12_reachName, cX12_reachName, 5, (some .boolean), []))))) (ev_tr 216 (ev_tr 215 (fun _ => (yX12_reachAll, cX12_reachAll, 4, none, [])) (fun _ => (yX12_wordsOf, cX12_wordsOf, 4, (some .int), []))) (ev_tr 217 (fun _ => (yX12_wordsUpTo, cX12_wordsUpTo, 5, (some .int), [])) (ev_tr 218 (fun _ => (yX12_next, cX12_next, 2, (some .int), [])) (fun _ => (yX12_place, cX12_place, 4, none, []))))))) (ev_tr 229 (ev_tr 224 (ev_tr 221 (ev_tr 220 (fun _ => (yX12_standsFor, cX12_standsFor, 2, (some .int), [])) (fun _ => (yX12_layOut, cX12_layOut, 6, none, []))) (ev_tr 222 (fun _ => (yX12_write, cX12_write, 4, none, [])) (ev_tr 223 (fun _ => (yX12_writePiece, cX12_writePiece, 8, none, [])) (fun _ => (yX12_longOf, cX12_longOf, 4, (some .int), []))))) (ev_tr 226 (ev_tr 225 (fun _ => (yX12_allLong, cX12_allLong, 4, (some .int), [])) (fun _ => (yX12_ofName, cX12_ofName, 3, (some .int), []))) (ev_tr 227 (fun _ => (yX12_reachedSections, cX12_reachedSections, 3, (some .int), [])) (ev_tr 228 (fun _ => (yX13_init, cX13_init, 1, none, [])) (fun _ => (yX13_thrown, cX13_thrown, 1, (some .int), [])))))) (ev_tr 234 (ev_tr 231 (ev_tr 230 (fun _ => (yX13_no, cX13_no, 2, (some .int), [])) (fun _ => (yX13_isIn, cX13_isIn, 3, (some .boolean), []))) (ev_tr 232 (fun _ => (yX13_has, cX13_has, 2, (some .boolean), [])) (ev_tr 233 (fun _ => (yX13_isAlign, cX13_isAlign, 1, (some .boolean), [])) (fun _ => (yX13_isObject, cX13_isObject, 2, (some .boolean), []))))) (ev_tr 236 (ev_tr 235 (fun _ => (yX13_isSection, cX13_isSection, 2, (some .boolean), [])) (fun _ => (yX13_isName, cX13_isName, 1, (some .boolean), []))) (ev_tr 237 (fun _ => (yX13_object, cX13_object, 1, (some .int), [])) (ev_tr 238 (fun _ => (yX13_section, cX13_section, 4, (some .int), [])) (fun _ => (yX13_add, cX13_add, 7, (some .int), []))))))))) (ev_tr 279 (ev_tr 259 (ev_tr 249 (ev_tr 244 (ev_tr 241 (ev_tr 240 (fun _ => (yX13_fill, cX13_fill, 3, (some .int), [])) (fun _ => (yX13_word, cX13_word, 5, (some .int), []))) (ev_tr 242 (fun _ => (yX13_jump, cX13_jump, 4, (some .int), [])) (ev_tr 243 (fun _ => (yX13_defineNow, cX13_defineNow, 8, (some .int), [])) (fun _ => (yX13_define, cX13_define, 5, (some .int), []))))) (ev_tr 246 (ev_tr 245 (fun _ => (yX13_definitions, cX13_definitions, 4, (some .int), [])) (fun _ => (yX13_common, cX13_common, 5, (some .int), []))) (ev_tr 247 (fun _ => (yX13_itemOf, cX13_itemOf, 3, (some .int), [])) (ev_tr 248 (fun _ => (yX13_item, cX13_item, 4, (some .int), [])) (fun _ => (yX13_clear, cX13_clear, 2, (some .int), [])))))) (ev_tr 254 (ev_tr 251 (ev_tr 250 (fun _ => (yX13_sectionsOf, cX13_sectionsOf, 4, (some .int), [])) (fun _ => (yX13_ofObjectNow, cX13_ofObjectNow, 3, (some .int), []))) (ev_tr 252 (fun _ => (yX13_ofObject, cX13_ofObject, 3, (some .int), [])) (ev_tr 253 (fun _ => (yX13_bounds, cX13_bounds, 4, (some .int), [])) (fun _ => (yX13_link, cX13_link, 4, (some .int), []))))) (ev_tr 256 (ev_tr 255 (fun _ => (yX13_ofSectionNow, cX13_ofSectionNow, 3, (some .int), [])) (fun _ => (yX13_ofSection, cX13_ofSection, 3, (some .int), []))) (ev_tr 257 (fun _ => (yX13_ofNameNow, cX13_ofNameNow, 3, (some .int), [])) (ev_tr 258 (fun _ => (yX13_ofName, cX13_ofName, 3, (some .int), [])) (fun _ => (yX13_fault, cX13_fault, 3, (some .int), []))))))) (ev_tr 269 (ev_tr 264 (ev_tr 261 (ev_tr 260 (fun _ => (yX13_wordAt, cX13_wordAt, 2, (some .int), [])) (fun _ => (yX13_isLibrary, cX13_isLibrary, 2, (some .boolean), []))) (ev_tr 262 (fun _ => (yX13_isLoaded, cX13_isLoaded, 2, (some .boolean), [])) (ev_tr 263 (fun _ => (yX13_publish, cX13_publish, 6, (some .int), [])) (fun _ => (yX13_plus, cX13_plus, 3, (some (.array .int)), []))))) (ev_tr 266 (ev_tr 265 (fun _ => (yX13_placeIn, cX13_placeIn, 3, (some .int), [])) (fun _ => (yX13_without, cX13_without, 7, (some (.array .int)), []))) (ev_tr 267 (fun _ => (yX13_rowOf, cX13_rowOf, 5, (some (.array .int)), [])) (ev_tr 268 (fun _ => (yX13_baseNow, cX13_baseNow, 3, (some .int), [])) (fun _ => (yX13_go, cX13_go, 6, (some .int), [])))))) (ev_tr 274 (ev_tr 271 (ev_tr 270 (fun _ => (yX13_open, cX13_open, 9, (some .int), [])) (fun _ => (yX13_goesNow, cX13_goesNow, 8, (some .int), []))) (ev_tr 272 (fun _ => (yX13_close, cX13_close, 7, (some .int), [])) (ev_tr 273 (fun _ => (yX13_find, cX13_find, 7, (some .int), [])) (fun _ => (yX13_canCall, cX13_canCall, 3, (some .boolean), []))))) (ev_tr 276 (ev_tr 275 (fun _ => (yX13_call, cX13_call, 3, (some .int), [])) (fun _ => (yX13_ofBindingNow, cX13_ofBindingNow, 5, (some .int), []))) (ev_tr 277 (fun _ => (yX13_ofBinding, cX13_ofBinding, 4, (some .int), [])) (ev_tr 278 (fun _ => (yX13_exports, cX13_exports, 4, (some .int), [])) (fun _ => (yX13_bits, cX13_bits, 3, (some .int), [])))))))) (ev_tr 299 (ev_tr 289 (ev_tr 284 (ev_tr 281 (ev_tr 280 (fun _ => (yX13_ofLibraryNow, cX13_ofLibraryNow, 3, (some .int), [])) (fun _ => (yX13_ofLibrary, cX13_ofLibrary, 3, (some .int), []))) (ev_tr 282 (fun _ => (yX13_manyNow, cX13_manyNow, 4, (some .int), [])) (ev_tr 283 (fun _ => (yX13_many, cX13_many, 2, (some .int), [])) (fun _ => (yX13_usedPart, cX13_usedPart, 1, (some .double), []))))) (ev_tr 286 (ev_tr 285 (fun _ => (yX13_sizeWith, cX13_sizeWith, 2, (some .int), [])) (fun _ => (yX13_faultsWithout, cX13_faultsWithout, 2, (some .int), []))) (ev_tr 287 (fun _ => (yX13_goes, cX13_goes, 2, (some .int), [])) (ev_tr 288 (fun _ => (yX13_wouldBindNow, cX13_wouldBindNow, 3, (some .int), [])) (fun _ => (yX13_wouldBind, cX13_wouldBind, 3, (some .int), [])))))) (ev_tr 294 (ev_tr 291 (ev_tr 290 (fun _ => (yX13_digest, cX13_digest, 6, (some .long), [])) (fun _ => (yJ6_bitCount_0f7a4, cJ6_bitCount_0f7a4, 1, (some .int), []))) (ev_tr 292 (fun _ => (yJ9_abs_0f7a4, cJ9_abs_0f7a4, 1, (some .int), [])) (ev_tr 293 (fun _ => (yJ9_max_7cf53, cJ9_max_7cf53, 2, (some .int), [])) (fun _ => (yL_object, cL_object, 3, (some .int), [(0, 8, 11, 13)]))))) (ev_tr 296 (ev_tr 295 (fun _ => (yL_section, cL_section, 6, (some .int), [(0, 12, 15, 19), (0, 12, 19, 21), (0, 12, 23, 13)])) (fun _ => (yL_fill, cL_fill, 5, (some .int), [(0, 10, 13, 19), (0, 10, 17, 21), (0, 10, 21, 13)]))) (ev_tr 297 (fun _ => (yL_word, cL_word, 7, (some .int), [(0, 14, 17, 19), (0, 14, 21, 21), (0, 14, 25, 13)])) (ev_tr 298 (fun _ => (yL_jump, cL_jump, 6, (some .int), [(0, 12, 15, 19), (0, 12, 19, 21), (0, 12, 23, 13)])) (fun _ => (yL_define, cL_define, 7, (some .int), [(0, 14, 17, 19), (0, 14, 21, 21), (0, 14, 25, 13)]))))))) (ev_tr 309 (ev_tr 304 (ev_tr 301 (ev_tr 300 (fun _ => (yL_common, cL_common, 7, (some .int), [(0, 14, 17, 19), (0, 14, 21, 21), (0, 14, 25, 13)])) (fun _ => (yL_item, cL_item, 5, (some .int), [(0, 10, 13, 21), (0, 10, 17, 13)]))) (ev_tr 302 (fun _ => (yL_ofObject, cL_ofObject, 5, (some .int), [(0, 10, 13, 19), (0, 10, 17, 21)])) (ev_tr 303 (fun _ => (yL_bounds, cL_bounds, 5, (some .int), [(0, 10, 13, 21)])) (fun _ => (yL_link, cL_link, 5, (some .int), [(0, 10, 13, 21)]))))) (ev_tr 306 (ev_tr 305 (fun _ => (yL_ofSection, cL_ofSection, 5, (some .int), [(0, 10, 13, 19), (0, 10, 17, 21)])) (fun _ => (yL_ofName, cL_ofName, 5, (some .int), [(0, 10, 13, 21)]))) (ev_tr 307 (fun _ => (yL_fault, cL_fault, 5, (some .int), [(0, 10, 13, 19), (0, 10, 17, 21)])) (ev_tr 308 (fun _ => (yL_wordAt, cL_wordAt, 4, (some .int), [(0, 9, 12, 19)])) (fun _ => (yL_publish, cL_publish, 4, (some .int), [(0, 9, 12, 21), (0, 9, 15, 13)])))))) (ev_tr 314 (ev_tr 311 (ev_tr 310 (fun _ => (yL_open, cL_open, 5, (some .int), [(0, 10, 13, 19)])) (fun _ => (yL_close, cL_close, 4, (some .int), [(0, 9, 12, 19), (0, 9, 15, 13)]))) (ev_tr 312 (fun _ => (yL_call, cL_call, 5, (some .int), [(0, 10, 13, 19), (0, 10, 17, 21), (0, 10, 21, 13)])) (ev_tr 313 (fun _ => (yL_ofBinding, cL_ofBinding, 6, (some .int), [(0, 12, 15, 19), (0, 12, 19, 21)])) (fun _ => (yL_ofLibrary, cL_ofLibrary, 5, (some .int), [(0, 10, 13, 19), (0, 10, 17, 21)]))))) (ev_tr 316 (ev_tr 315 (fun _ => (yL_many, cL_many, 4, (some .int), [(0, 9, 12, 21)])) (fun _ => (yL_sizeWith, cL_sizeWith, 4, (some .int), [(0, 9, 12, 21), (0, 9, 15, 13)]))) (ev_tr 317 (fun _ => (yL_faultsWithout, cL_faultsWithout, 4, (some .int), [(0, 9, 12, 19), (0, 9, 15, 13)])) (ev_tr 318 (fun _ => (yL_goes, cL_goes, 4, (some .int), [(0, 9, 12, 19)])) (fun _ => (yL_wouldBind, cL_wouldBind, 5, (some .int), [(0, 10, 13, 19), (0, 10, 17, 21)])))))))))))
theorem cz_0 : (mt 0).2.2.2.2 = [] := rfl
theorem cc_0 : Cond.code (mt 0).1 (mt 0).2.1 (mt 0).2.2.1 (mt 0).2.2.2.1 ∈ lw_g := mG 279 (by decide +kernel) rfl
theorem ci_0 : Cond.initialized (mt 0).1.cls ∈ lw_g := w_91
theorem cm_0 : Cond.instanceMethod (mt 0).1 ∈ lw_g := w_278
theorem cd_0 : (mt 0).1.cls ≠ "java/lang/invoke/MethodHandle" ∧ (mt 0).1.cls ≠ "java/lang/invoke/VarHandle" ∧ (parseMethodDescriptor (mt 0).1.desc).map (fun d => d.parameters.length) = some 0 := ⟨by decide +kernel, by decide +kernel, by decide +kernel⟩
theorem cl_0 : (mt 0).2.2.1 ≤ 45 := by decide
theorem cz_1 : (mt 1).2.2.2.2 = [] := rfl
theorem cc_1 : Cond.code (mt 1).1 (mt 1).2.1 (mt 1).2.2.1 (mt 1).2.2.2.1 ∈ lw_g := mG 591 (by decide +kernel) rfl
theorem ci_1 : Cond.initialized (mt 1).1.cls ∈ lw_g := w_91
theorem cm_1 : Cond.instanceMethod (mt 1).1 ∈ lw_g := w_589
theorem cs_1 : Cond.selects (mt 1).1.cls (mt 1).1 (mt 1).1 ∈ lw_g := w_590
theorem cd_1 : (mt 1).1.cls ≠ "java/lang/invoke/MethodHandle" ∧ (mt 1).1.cls ≠ "java/lang/invoke/VarHandle" ∧ (parseMethodDescriptor (mt 1).1.desc).map (fun d => d.parameters.length) = some 0 := ⟨by decide +kernel, by decide +kernel, by decide +kernel⟩
theorem cl_1 : (mt 1).2.2.1 ≤ 45 := by decide
theorem cz_2 : (mt 2).2.2.2.2 = [] := rfl
theorem cc_2 : Cond.code (mt 2).1 (mt 2).2.1 (mt 2).2.2.1 (mt 2).2.2.2.1 ∈ lw_g := mG 1207 (by decide +kernel) rfl
theorem ci_2 : Cond.initialized (mt 2).1.cls ∈ lw_g := w_91
theorem cm_2 : Cond.instanceMethod (mt 2).1 ∈ lw_g := w_1205
theorem cs_2 : Cond.selects (mt 2).1.cls (mt 2).1 (mt 2).1 ∈ lw_g := w_1206
theorem cd_2 : (mt 2).1.cls ≠ "java/lang/invoke/MethodHandle" ∧ (mt 2).1.cls ≠ "java/lang/invoke/VarHandle" ∧ (parseMethodDescriptor (mt 2).1.desc).map (fun d => d.parameters.length) = some 0 := ⟨by decide +kernel, by decide +kernel, by decide +kernel⟩
theorem cl_2 : (mt 2).2.2.1 ≤ 45 := by decide
theorem cz_3 : (mt 3).2.2.2.2 = [] := rfl
theorem cc_3 : Cond.code (mt 3).1 (mt 3).2.1 (mt 3).2.2.1 (mt 3).2.2.2.1 ∈ lw_g := mG 1215 (by decide +kernel) rfl
theorem ci_3 : Cond.initialized (mt 3).1.cls ∈ lw_g := w_91
theorem cm_3 : Cond.instanceMethod (mt 3).1 ∈ lw_g := w_1213
theorem cs_3 : Cond.selects (mt 3).1.cls (mt 3).1 (mt 3).1 ∈ lw_g := w_1214
theorem cd_3 : (mt 3).1.cls ≠ "java/lang/invoke/MethodHandle" ∧ (mt 3).1.cls ≠ "java/lang/invoke/VarHandle" ∧ (parseMethodDescriptor (mt 3).1.desc).map (fun d => d.parameters.length) = some 4 := ⟨by decide +kernel, by decide +kernel, by decide +kernel⟩
theorem cl_3 : (mt 3).2.2.1 ≤ 45 := by decide
theorem cz_4 : (mt 4).2.2.2.2 = [] := rfl
theorem cc_4 : Cond.code (mt 4).1 (mt 4).2.1 (mt 4).2.2.1 (mt 4).2.2.2.1 ∈ lw_g := mG 819 (by decide +kernel) rfl
theorem ci_4 : Cond.initialized (mt 4).1.cls ∈ lw_g := w_91
theorem cm_4 : Cond.instanceMethod (mt 4).1 ∈ lw_g := w_817
theorem cs_4 : Cond.selects (mt 4).1.cls (mt 4).1 (mt 4).1 ∈ lw_g := w_818
theorem cd_4 : (mt 4).1.cls ≠ "java/lang/invoke/MethodHandle" ∧ (mt 4).1.cls ≠ "java/lang/invoke/VarHandle" ∧ (parseMethodDescriptor (mt 4).1.desc).map (fun d => d.parameters.length) = some 2 := ⟨by decide +kernel, by decide +kernel, by decide +kernel⟩
theorem cl_4 : (mt 4).2.2.1 ≤ 45 := by decide
theorem cz_5 : (mt 5).2.2.2.2 = [] := rfl
theorem cc_5 : Cond.code (mt 5).1 (mt 5).2.1 (mt 5).2.2.1 (mt 5).2.2.2.1 ∈ lw_g := mG 263 (by decide +kernel) rfl
theorem ci_5 : Cond.initialized (mt 5).1.cls ∈ lw_g := w_89
theorem cm_5 : Cond.instanceMethod (mt 5).1 ∈ lw_g := w_262
theorem cd_5 : (mt 5).1.cls ≠ "java/lang/invoke/MethodHandle" ∧ (mt 5).1.cls ≠ "java/lang/invoke/VarHandle" ∧ (parseMethodDescriptor (mt 5).1.desc).map (fun d => d.parameters.length) = some 0 := ⟨by decide +kernel, by decide +kernel, by decide +kernel⟩
theorem cl_5 : (mt 5).2.2.1 ≤ 45 := by decide
theorem cz_6 : (mt 6).2.2.2.2 = [] := rfl
theorem cc_6 : Cond.code (mt 6).1 (mt 6).2.1 (mt 6).2.2.1 (mt 6).2.2.2.1 ∈ lw_g := mG 1412 (by decide +kernel) rfl
theorem ci_6 : Cond.initialized (mt 6).1.cls ∈ lw_g := w_89
theorem cm_6 : Cond.instanceMethod (mt 6).1 ∈ lw_g := w_1410
theorem cs_6 : Cond.selects (mt 6).1.cls (mt 6).1 (mt 6).1 ∈ lw_g := w_1411
theorem cd_6 : (mt 6).1.cls ≠ "java/lang/invoke/MethodHandle" ∧ (mt 6).1.cls ≠ "java/lang/invoke/VarHandle" ∧ (parseMethodDescriptor (mt 6).1.desc).map (fun d => d.parameters.length) = some 1 := ⟨by decide +kernel, by decide +kernel, by decide +kernel⟩
theorem cl_6 : (mt 6).2.2.1 ≤ 45 := by decide
theorem cz_7 : (mt 7).2.2.2.2 = [] := rfl
theorem cc_7 : Cond.code (mt 7).1 (mt 7).2.1 (mt 7).2.2.1 (mt 7).2.2.2.1 ∈ lw_g := mG 1422 (by decide +kernel) rfl
theorem ci_7 : Cond.initialized (mt 7).1.cls ∈ lw_g := w_89
theorem cm_7 : Cond.instanceMethod (mt 7).1 ∈ lw_g := w_1420
theorem cs_7 : Cond.selects (mt 7).1.cls (mt 7).1 (mt 7).1 ∈ lw_g := w_1421
theorem cd_7 : (mt 7).1.cls ≠ "java/lang/invoke/MethodHandle" ∧ (mt 7).1.cls ≠ "java/lang/invoke/VarHandle" ∧ (parseMethodDescriptor (mt 7).1.desc).map (fun d => d.parameters.length) = some 2 := ⟨by decide +kernel, by decide +kernel, by decide +kernel⟩
theorem cl_7 : (mt 7).2.2.1 ≤ 45 := by decide
theorem cz_8 : (mt 8).2.2.2.2 = [] := rfl
theorem cc_8 : Cond.code (mt 8).1 (mt 8).2.1 (mt 8).2.2.1 (mt 8).2.2.2.1 ∈ lw_g := mG 829 (by decide +kernel) rfl
theorem ci_8 : Cond.initialized (mt 8).1.cls ∈ lw_g := w_89
theorem cm_8 : Cond.instanceMethod (mt 8).1 ∈ lw_g := w_827
theorem cs_8 : Cond.selects (mt 8).1.cls (mt 8).1 (mt 8).1 ∈ lw_g := w_828
theorem cd_8 : (mt 8).1.cls ≠ "java/lang/invoke/MethodHandle" ∧ (mt 8).1.cls ≠ "java/lang/invoke/VarHandle" ∧ (parseMethodDescriptor (mt 8).1.desc).map (fun d => d.parameters.length) = some 1 := ⟨by decide +kernel, by decide +kernel, by decide +kernel⟩
theorem cl_8 : (mt 8).2.2.1 ≤ 45 := by decide
theorem cz_9 : (mt 9).2.2.2.2 = [] := rfl
theorem cc_9 : Cond.code (mt 9).1 (mt 9).2.1 (mt 9).2.2.1 (mt 9).2.2.2.1 ∈ lw_g := mG 192 (by decide +kernel) rfl
theorem ci_9 : Cond.initialized (mt 9).1.cls ∈ lw_g := w_87
theorem cm_9 : Cond.instanceMethod (mt 9).1 ∈ lw_g := w_191
theorem cd_9 : (mt 9).1.cls ≠ "java/lang/invoke/MethodHandle" ∧ (mt 9).1.cls ≠ "java/lang/invoke/VarHandle" ∧ (parseMethodDescriptor (mt 9).1.desc).map (fun d => d.parameters.length) = some 0 := ⟨by decide +kernel, by decide +kernel, by decide +kernel⟩
theorem cl_9 : (mt 9).2.2.1 ≤ 45 := by decide
theorem cz_10 : (mt 10).2.2.2.2 = [] := rfl
theorem cc_10 : Cond.code (mt 10).1 (mt 10).2.1 (mt 10).2.2.1 (mt 10).2.2.2.1 ∈ lw_g := mG 541 (by decide +kernel) rfl
theorem ci_10 : Cond.initialized (mt 10).1.cls ∈ lw_g := w_87
theorem cm_10 : Cond.instanceMethod (mt 10).1 ∈ lw_g := w_539
theorem cs_10 : Cond.selects (mt 10).1.cls (mt 10).1 (mt 10).1 ∈ lw_g := w_540
theorem cd_10 : (mt 10).1.cls ≠ "java/lang/invoke/MethodHandle" ∧ (mt 10).1.cls ≠ "java/lang/invoke/VarHandle" ∧ (parseMethodDescriptor (mt 10).1.desc).map (fun d => d.parameters.length) = some 0 := ⟨by decide +kernel, by decide +kernel, by decide +kernel⟩
theorem cl_10 : (mt 10).2.2.1 ≤ 45 := by decide
theorem cz_11 : (mt 11).2.2.2.2 = [] := rfl
theorem cc_11 : Cond.code (mt 11).1 (mt 11).2.1 (mt 11).2.2.1 (mt 11).2.2.2.1 ∈ lw_g := mG 1374 (by decide +kernel) rfl
theorem ci_11 : Cond.initialized (mt 11).1.cls ∈ lw_g := w_87
theorem cm_11 : Cond.instanceMethod (mt 11).1 ∈ lw_g := w_1372
theorem cs_11 : Cond.selects (mt 11).1.cls (mt 11).1 (mt 11).1 ∈ lw_g := w_1373
theorem cd_11 : (mt 11).1.cls ≠ "java/lang/invoke/MethodHandle" ∧ (mt 11).1.cls ≠ "java/lang/invoke/VarHandle" ∧ (parseMethodDescriptor (mt 11).1.desc).map (fun d => d.parameters.length) = some 0 := ⟨by decide +kernel, by decide +kernel, by decide +kernel⟩
theorem cl_11 : (mt 11).2.2.1 ≤ 45 := by decide
theorem cz_12 : (mt 12).2.2.2.2 = [] := rfl
theorem cc_12 : Cond.code (mt 12).1 (mt 12).2.1 (mt 12).2.2.1 (mt 12).2.2.2.1 ∈ lw_g := mG 1383 (by decide +kernel) rfl
theorem ci_12 : Cond.initialized (mt 12).1.cls ∈ lw_g := w_87
theorem cm_12 : Cond.instanceMethod (mt 12).1 ∈ lw_g := w_1381
theorem cs_12 : Cond.selects (mt 12).1.cls (mt 12).1 (mt 12).1 ∈ lw_g := w_1382
theorem cd_12 : (mt 12).1.cls ≠ "java/lang/invoke/MethodHandle" ∧ (mt 12).1.cls ≠ "java/lang/invoke/VarHandle" ∧ (parseMethodDescriptor (mt 12).1.desc).map (fun d => d.parameters.length) = some 2 := ⟨by decide +kernel, by decide +kernel, by decide +kernel⟩
theorem cl_12 : (mt 12).2.2.1 ≤ 45 := by decide
theorem cz_13 : (mt 13).2.2.2.2 = [] := rfl
theorem cc_13 : Cond.code (mt 13).1 (mt 13).2.1 (mt 13).2.2.1 (mt 13).2.2.2.1 ∈ lw_g := mG 508 (by decide +kernel) rfl
theorem ci_13 : Cond.initialized (mt 13).1.cls ∈ lw_g := w_87
theorem cm_13 : Cond.instanceMethod (mt 13).1 ∈ lw_g := w_506
theorem cs_13 : Cond.selects (mt 13).1.cls (mt 13).1 (mt 13).1 ∈ lw_g := w_507
theorem cd_13 : (mt 13).1.cls ≠ "java/lang/invoke/MethodHandle" ∧ (mt 13).1.cls ≠ "java/lang/invoke/VarHandle" ∧ (parseMethodDescriptor (mt 13).1.desc).map (fun d => d.parameters.length) = some 0 := ⟨by decide +kernel, by decide +kernel, by decide +kernel⟩
theorem cl_13 : (mt 13).2.2.1 ≤ 45 := by decide
theorem cz_14 : (mt 14).2.2.2.2 = [] := rfl
theorem cc_14 : Cond.code (mt 14).1 (mt 14).2.1 (mt 14).2.2.1 (mt 14).2.2.2.1 ∈ lw_g := mG 1378 (by decide +kernel) rfl
theorem ci_14 : Cond.initialized (mt 14).1.cls ∈ lw_g := w_87
theorem cm_14 : Cond.instanceMethod (mt 14).1 ∈ lw_g := w_1376
theorem cs_14 : Cond.selects (mt 14).1.cls (mt 14).1 (mt 14).1 ∈ lw_g := w_1377
theorem cd_14 : (mt 14).1.cls ≠ "java/lang/invoke/MethodHandle" ∧ (mt 14).1.cls ≠ "java/lang/invoke/VarHandle" ∧ (parseMethodDescriptor (mt 14).1.desc).map (fun d => d.parameters.length) = some 1 := ⟨by decide +kernel, by decide +kernel, by decide +kernel⟩
theorem cl_14 : (mt 14).2.2.1 ≤ 45 := by decide
theorem cz_15 : (mt 15).2.2.2.2 = [] := rfl
theorem cc_15 : Cond.code (mt 15).1 (mt 15).2.1 (mt 15).2.2.1 (mt 15).2.2.2.1 ∈ lw_g := mG 727 (by decide +kernel) rfl
theorem ci_15 : Cond.initialized (mt 15).1.cls ∈ lw_g := w_87
theorem cm_15 : Cond.instanceMethod (mt 15).1 ∈ lw_g := w_725
theorem cs_15 : Cond.selects (mt 15).1.cls (mt 15).1 (mt 15).1 ∈ lw_g := w_726
theorem cd_15 : (mt 15).1.cls ≠ "java/lang/invoke/MethodHandle" ∧ (mt 15).1.cls ≠ "java/lang/invoke/VarHandle" ∧ (parseMethodDescriptor (mt 15).1.desc).map (fun d => d.parameters.length) = some 1 := ⟨by decide +kernel, by decide +kernel, by decide +kernel⟩
theorem cl_15 : (mt 15).2.2.1 ≤ 45 := by decide
theorem cz_16 : (mt 16).2.2.2.2 = [] := rfl
theorem cc_16 : Cond.code (mt 16).1 (mt 16).2.1 (mt 16).2.2.1 (mt 16).2.2.2.1 ∈ lw_g := mG 981 (by decide +kernel) rfl
theorem ci_16 : Cond.initialized (mt 16).1.cls ∈ lw_g := w_87
theorem cm_16 : Cond.instanceMethod (mt 16).1 ∈ lw_g := w_979
theorem cs_16 : Cond.selects (mt 16).1.cls (mt 16).1 (mt 16).1 ∈ lw_g := w_980
theorem cd_16 : (mt 16).1.cls ≠ "java/lang/invoke/MethodHandle" ∧ (mt 16).1.cls ≠ "java/lang/invoke/VarHandle" ∧ (parseMethodDescriptor (mt 16).1.desc).map (fun d => d.parameters.length) = some 1 := ⟨by decide +kernel, by decide +kernel, by decide +kernel⟩
theorem cl_16 : (mt 16).2.2.1 ≤ 45 := by decide
theorem cz_17 : (mt 17).2.2.2.2 = [] := rfl
theorem cc_17 : Cond.code (mt 17).1 (mt 17).2.1 (mt 17).2.2.1 (mt 17).2.2.2.1 ∈ lw_g := mG 977 (by decide +kernel) rfl
theorem ci_17 : Cond.initialized (mt 17).1.cls ∈ lw_g := w_87
theorem cm_17 : Cond.instanceMethod (mt 17).1 ∈ lw_g := w_975
theorem cs_17 : Cond.selects (mt 17).1.cls (mt 17).1 (mt 17).1 ∈ lw_g := w_976
theorem cd_17 : (mt 17).1.cls ≠ "java/lang/invoke/MethodHandle" ∧ (mt 17).1.cls ≠ "java/lang/invoke/VarHandle" ∧ (parseMethodDescriptor (mt 17).1.desc).map (fun d => d.parameters.length) = some 1 := ⟨by decide +kernel, by decide +kernel, by decide +kernel⟩
theorem cl_17 : (mt 17).2.2.1 ≤ 45 := by decide
theorem cz_18 : (mt 18).2.2.2.2 = [] := rfl
theorem cc_18 : Cond.code (mt 18).1 (mt 18).2.1 (mt 18).2.2.1 (mt 18).2.2.2.1 ∈ lw_g := mG 999 (by decide +kernel) rfl
theorem ci_18 : Cond.initialized (mt 18).1.cls ∈ lw_g := w_87
theorem cm_18 : Cond.instanceMethod (mt 18).1 ∈ lw_g := w_997
theorem cs_18 : Cond.selects (mt 18).1.cls (mt 18).1 (mt 18).1 ∈ lw_g := w_998
theorem cd_18 : (mt 18).1.cls ≠ "java/lang/invoke/MethodHandle" ∧ (mt 18).1.cls ≠ "java/lang/invoke/VarHandle" ∧ (parseMethodDescriptor (mt 18).1.desc).map (fun d => d.parameters.length) = some 1 := ⟨by decide +kernel, by decide +kernel, by decide +kernel⟩
theorem cl_18 : (mt 18).2.2.1 ≤ 45 := by decide
theorem cz_19 : (mt 19).2.2.2.2 = [] := rfl
theorem cc_19 : Cond.code (mt 19).1 (mt 19).2.1 (mt 19).2.2.1 (mt 19).2.2.2.1 ∈ lw_g := mG 1007 (by decide +kernel) rfl
theorem ci_19 : Cond.initialized (mt 19).1.cls ∈ lw_g := w_87
theorem cm_19 : Cond.instanceMethod (mt 19).1 ∈ lw_g := w_1005
theorem cs_19 : Cond.selects (mt 19).1.cls (mt 19).1 (mt 19).1 ∈ lw_g := w_1006
theorem cd_19 : (mt 19).1.cls ≠ "java/lang/invoke/MethodHandle" ∧ (mt 19).1.cls ≠ "java/lang/invoke/VarHandle" ∧ (parseMethodDescriptor (mt 19).1.desc).map (fun d => d.parameters.length) = some 1 := ⟨by decide +kernel, by decide +kernel, by decide +kernel⟩
theorem cl_19 : (mt 19).2.2.1 ≤ 45 := by decide
theorem cz_20 : (mt 20).2.2.2.2 = [] := rfl
theorem cc_20 : Cond.code (mt 20).1 (mt 20).2.1 (mt 20).2.2.1 (mt 20).2.2.2.1 ∈ lw_g := mG 395 (by decide +kernel) rfl
theorem ci_20 : Cond.initialized (mt 20).1.cls ∈ lw_g := w_95
theorem cm_20 : Cond.instanceMethod (mt 20).1 ∈ lw_g := w_394
theorem cd_20 : (mt 20).1.cls ≠ "java/lang/invoke/MethodHandle" ∧ (mt 20).1.cls ≠ "java/lang/invoke/VarHandle" ∧ (parseMethodDescriptor (mt 20).1.desc).map (fun d => d.parameters.length) = some 4 := ⟨by decide +kernel, by decide +kernel, by decide +kernel⟩
theorem cl_20 : (mt 20).2.2.1 ≤ 45 := by decide
theorem cz_21 : (mt 21).2.2.2.2 = [] := rfl
theorem cc_21 : Cond.code (mt 21).1 (mt 21).2.1 (mt 21).2.2.1 (mt 21).2.2.2.1 ∈ lw_g := mG 516 (by decide +kernel) rfl
theorem ci_21 : Cond.initialized (mt 21).1.cls ∈ lw_g := w_95
theorem cm_21 : Cond.instanceMethod (mt 21).1 ∈ lw_g := w_514
theorem cs_21 : Cond.selects (mt 21).1.cls (mt 21).1 (mt 21).1 ∈ lw_g := w_515
theorem cd_21 : (mt 21).1.cls ≠ "java/lang/invoke/MethodHandle" ∧ (mt 21).1.cls ≠ "java/lang/invoke/VarHandle" ∧ (parseMethodDescriptor (mt 21).1.desc).map (fun d => d.parameters.length) = some 0 := ⟨by decide +kernel, by decide +kernel, by decide +kernel⟩
theorem cl_21 : (mt 21).2.2.1 ≤ 45 := by decide
theorem cz_22 : (mt 22).2.2.2.2 = [] := rfl
theorem cc_22 : Cond.code (mt 22).1 (mt 22).2.1 (mt 22).2.2.1 (mt 22).2.2.2.1 ∈ lw_g := mG 520 (by decide +kernel) rfl
theorem ci_22 : Cond.initialized (mt 22).1.cls ∈ lw_g := w_95
theorem cm_22 : Cond.instanceMethod (mt 22).1 ∈ lw_g := w_518
theorem cs_22 : Cond.selects (mt 22).1.cls (mt 22).1 (mt 22).1 ∈ lw_g := w_519
theorem cd_22 : (mt 22).1.cls ≠ "java/lang/invoke/MethodHandle" ∧ (mt 22).1.cls ≠ "java/lang/invoke/VarHandle" ∧ (parseMethodDescriptor (mt 22).1.desc).map (fun d => d.parameters.length) = some 0 := ⟨by decide +kernel, by decide +kernel, by decide +kernel⟩
theorem cl_22 : (mt 22).2.2.1 ≤ 45 := by decide
theorem cz_23 : (mt 23).2.2.2.2 = [] := rfl
theorem cc_23 : Cond.code (mt 23).1 (mt 23).2.1 (mt 23).2.2.1 (mt 23).2.2.2.1 ∈ lw_g := mG 1220 (by decide +kernel) rfl
theorem ci_23 : Cond.initialized (mt 23).1.cls ∈ lw_g := w_95
theorem cm_23 : Cond.instanceMethod (mt 23).1 ∈ lw_g := w_1218
theorem cs_23 : Cond.selects (mt 23).1.cls (mt 23).1 (mt 23).1 ∈ lw_g := w_1219
theorem cd_23 : (mt 23).1.cls ≠ "java/lang/invoke/MethodHandle" ∧ (mt 23).1.cls ≠ "java/lang/invoke/VarHandle" ∧ (parseMethodDescriptor (mt 23).1.desc).map (fun d => d.parameters.length) = some 0 := ⟨by decide +kernel, by decide +kernel, by decide +kernel⟩
theorem cl_23 : (mt 23).2.2.1 ≤ 45 := by decide
theorem cz_24 : (mt 24).2.2.2.2 = [] := rfl
theorem cc_24 : Cond.code (mt 24).1 (mt 24).2.1 (mt 24).2.2.1 (mt 24).2.2.2.1 ∈ lw_g := mG 1224 (by decide +kernel) rfl
theorem ci_24 : Cond.initialized (mt 24).1.cls ∈ lw_g := w_95
theorem cm_24 : Cond.instanceMethod (mt 24).1 ∈ lw_g := w_1222
theorem cs_24 : Cond.selects (mt 24).1.cls (mt 24).1 (mt 24).1 ∈ lw_g := w_1223
theorem cd_24 : (mt 24).1.cls ≠ "java/lang/invoke/MethodHandle" ∧ (mt 24).1.cls ≠ "java/lang/invoke/VarHandle" ∧ (parseMethodDescriptor (mt 24).1.desc).map (fun d => d.parameters.length) = some 1 := ⟨by decide +kernel, by decide +kernel, by decide +kernel⟩
theorem cl_24 : (mt 24).2.2.1 ≤ 45 := by decide
theorem cz_25 : (mt 25).2.2.2.2 = [] := rfl
theorem cc_25 : Cond.code (mt 25).1 (mt 25).2.1 (mt 25).2.2.1 (mt 25).2.2.2.1 ∈ lw_g := mG 764 (by decide +kernel) rfl
theorem ci_25 : Cond.initialized (mt 25).1.cls ∈ lw_g := w_95
theorem cm_25 : Cond.instanceMethod (mt 25).1 ∈ lw_g := w_762
theorem cs_25 : Cond.selects (mt 25).1.cls (mt 25).1 (mt 25).1 ∈ lw_g := w_763
theorem cd_25 : (mt 25).1.cls ≠ "java/lang/invoke/MethodHandle" ∧ (mt 25).1.cls ≠ "java/lang/invoke/VarHandle" ∧ (parseMethodDescriptor (mt 25).1.desc).map (fun d => d.parameters.length) = some 1 := ⟨by decide +kernel, by decide +kernel, by decide +kernel⟩
theorem cl_25 : (mt 25).2.2.1 ≤ 45 := by decide
theorem cz_26 : (mt 26).2.2.2.2 = [] := rfl
theorem cc_26 : Cond.code (mt 26).1 (mt 26).2.1 (mt 26).2.2.1 (mt 26).2.2.2.1 ∈ lw_g := mG 768 (by decide +kernel) rfl
theorem ci_26 : Cond.initialized (mt 26).1.cls ∈ lw_g := w_95
theorem cm_26 : Cond.instanceMethod (mt 26).1 ∈ lw_g := w_766
theorem cs_26 : Cond.selects (mt 26).1.cls (mt 26).1 (mt 26).1 ∈ lw_g := w_767
theorem cd_26 : (mt 26).1.cls ≠ "java/lang/invoke/MethodHandle" ∧ (mt 26).1.cls ≠ "java/lang/invoke/VarHandle" ∧ (parseMethodDescriptor (mt 26).1.desc).map (fun d => d.parameters.length) = some 1 := ⟨by decide +kernel, by decide +kernel, by decide +kernel⟩
theorem cl_26 : (mt 26).2.2.1 ≤ 45 := by decide
theorem cz_27 : (mt 27).2.2.2.2 = [] := rfl
theorem cc_27 : Cond.code (mt 27).1 (mt 27).2.1 (mt 27).2.2.1 (mt 27).2.2.2.1 ∈ lw_g := mG 599 (by decide +kernel) rfl
theorem ci_27 : Cond.initialized (mt 27).1.cls ∈ lw_g := w_95
theorem cm_27 : Cond.instanceMethod (mt 27).1 ∈ lw_g := w_597
theorem cs_27 : Cond.selects (mt 27).1.cls (mt 27).1 (mt 27).1 ∈ lw_g := w_598
theorem cd_27 : (mt 27).1.cls ≠ "java/lang/invoke/MethodHandle" ∧ (mt 27).1.cls ≠ "java/lang/invoke/VarHandle" ∧ (parseMethodDescriptor (mt 27).1.desc).map (fun d => d.parameters.length) = some 1 := ⟨by decide +kernel, by decide +kernel, by decide +kernel⟩
theorem cl_27 : (mt 27).2.2.1 ≤ 45 := by decide
theorem cz_28 : (mt 28).2.2.2.2 = [] := rfl
theorem cc_28 : Cond.code (mt 28).1 (mt 28).2.1 (mt 28).2.2.1 (mt 28).2.2.2.1 ∈ lw_g := mG 595 (by decide +kernel) rfl
theorem ci_28 : Cond.initialized (mt 28).1.cls ∈ lw_g := w_95
theorem cm_28 : Cond.instanceMethod (mt 28).1 ∈ lw_g := w_593
theorem cs_28 : Cond.selects (mt 28).1.cls (mt 28).1 (mt 28).1 ∈ lw_g := w_594
theorem cd_28 : (mt 28).1.cls ≠ "java/lang/invoke/MethodHandle" ∧ (mt 28).1.cls ≠ "java/lang/invoke/VarHandle" ∧ (parseMethodDescriptor (mt 28).1.desc).map (fun d => d.parameters.length) = some 0 := ⟨by decide +kernel, by decide +kernel, by decide +kernel⟩
theorem cl_28 : (mt 28).2.2.1 ≤ 45 := by decide
theorem cz_29 : (mt 29).2.2.2.2 = [] := rfl
theorem cc_29 : Cond.code (mt 29).1 (mt 29).2.1 (mt 29).2.2.1 (mt 29).2.2.2.1 ∈ lw_g := mG 795 (by decide +kernel) rfl
theorem ci_29 : Cond.initialized (mt 29).1.cls ∈ lw_g := w_95
theorem cm_29 : Cond.instanceMethod (mt 29).1 ∈ lw_g := w_793
theorem cs_29 : Cond.selects (mt 29).1.cls (mt 29).1 (mt 29).1 ∈ lw_g := w_794
theorem cd_29 : (mt 29).1.cls ≠ "java/lang/invoke/MethodHandle" ∧ (mt 29).1.cls ≠ "java/lang/invoke/VarHandle" ∧ (parseMethodDescriptor (mt 29).1.desc).map (fun d => d.parameters.length) = some 1 := ⟨by decide +kernel, by decide +kernel, by decide +kernel⟩
theorem cl_29 : (mt 29).2.2.1 ≤ 45 := by decide
theorem cz_30 : (mt 30).2.2.2.2 = [] := rfl
theorem cc_30 : Cond.code (mt 30).1 (mt 30).2.1 (mt 30).2.2.1 (mt 30).2.2.2.1 ∈ lw_g := mG 1196 (by decide +kernel) rfl
theorem ci_30 : Cond.initialized (mt 30).1.cls ∈ lw_g := w_95
theorem cm_30 : Cond.instanceMethod (mt 30).1 ∈ lw_g := w_1194
theorem cs_30 : Cond.selects (mt 30).1.cls (mt 30).1 (mt 30).1 ∈ lw_g := w_1195
theorem cd_30 : (mt 30).1.cls ≠ "java/lang/invoke/MethodHandle" ∧ (mt 30).1.cls ≠ "java/lang/invoke/VarHandle" ∧ (parseMethodDescriptor (mt 30).1.desc).map (fun d => d.parameters.length) = some 1 := ⟨by decide +kernel, by decide +kernel, by decide +kernel⟩
theorem cl_30 : (mt 30).2.2.1 ≤ 45 := by decide
theorem cz_31 : (mt 31).2.2.2.2 = [] := rfl
theorem cc_31 : Cond.code (mt 31).1 (mt 31).2.1 (mt 31).2.2.1 (mt 31).2.2.2.1 ∈ lw_g := mG 1157 (by decide +kernel) rfl
theorem ci_31 : Cond.initialized (mt 31).1.cls ∈ lw_g := w_95
theorem cm_31 : Cond.instanceMethod (mt 31).1 ∈ lw_g := w_1155
theorem cs_31 : Cond.selects (mt 31).1.cls (mt 31).1 (mt 31).1 ∈ lw_g := w_1156
theorem cd_31 : (mt 31).1.cls ≠ "java/lang/invoke/MethodHandle" ∧ (mt 31).1.cls ≠ "java/lang/invoke/VarHandle" ∧ (parseMethodDescriptor (mt 31).1.desc).map (fun d => d.parameters.length) = some 2 := ⟨by decide +kernel, by decide +kernel, by decide +kernel⟩
theorem cl_31 : (mt 31).2.2.1 ≤ 45 := by decide
theorem cz_32 : (mt 32).2.2.2.2 = [] := rfl
theorem cc_32 : Cond.code (mt 32).1 (mt 32).2.1 (mt 32).2.2.1 (mt 32).2.2.2.1 ∈ lw_g := mG 1125 (by decide +kernel) rfl
theorem ci_32 : Cond.initialized (mt 32).1.cls ∈ lw_g := w_95
theorem cm_32 : Cond.instanceMethod (mt 32).1 ∈ lw_g := w_1123
theorem cs_32 : Cond.selects (mt 32).1.cls (mt 32).1 (mt 32).1 ∈ lw_g := w_1124
theorem cd_32 : (mt 32).1.cls ≠ "java/lang/invoke/MethodHandle" ∧ (mt 32).1.cls ≠ "java/lang/invoke/VarHandle" ∧ (parseMethodDescriptor (mt 32).1.desc).map (fun d => d.parameters.length) = some 1 := ⟨by decide +kernel, by decide +kernel, by decide +kernel⟩
theorem cl_32 : (mt 32).2.2.1 ≤ 45 := by decide
theorem cz_33 : (mt 33).2.2.2.2 = [] := rfl
theorem cc_33 : Cond.code (mt 33).1 (mt 33).2.1 (mt 33).2.2.1 (mt 33).2.2.2.1 ∈ lw_g := mG 1129 (by decide +kernel) rfl
theorem ci_33 : Cond.initialized (mt 33).1.cls ∈ lw_g := w_95
theorem cm_33 : Cond.instanceMethod (mt 33).1 ∈ lw_g := w_1128
theorem cs_33 : Cond.selects (mt 33).1.cls (mt 33).1 (mt 33).1 ∈ lw_g := w_21
theorem cd_33 : (mt 33).1.cls ≠ "java/lang/invoke/MethodHandle" ∧ (mt 33).1.cls ≠ "java/lang/invoke/VarHandle" ∧ (parseMethodDescriptor (mt 33).1.desc).map (fun d => d.parameters.length) = some 0 := ⟨by decide +kernel, by decide +kernel, by decide +kernel⟩
theorem cl_33 : (mt 33).2.2.1 ≤ 45 := by decide
theorem cz_34 : (mt 34).2.2.2.2 = [] := rfl
theorem cc_34 : Cond.code (mt 34).1 (mt 34).2.1 (mt 34).2.2.1 (mt 34).2.2.2.1 ∈ lw_g := mG 1137 (by decide +kernel) rfl
theorem ci_34 : Cond.initialized (mt 34).1.cls ∈ lw_g := w_95
theorem cm_34 : Cond.instanceMethod (mt 34).1 ∈ lw_g := w_1136
theorem cs_34 : Cond.selects (mt 34).1.cls (mt 34).1 (mt 34).1 ∈ lw_g := w_22
theorem cd_34 : (mt 34).1.cls ≠ "java/lang/invoke/MethodHandle" ∧ (mt 34).1.cls ≠ "java/lang/invoke/VarHandle" ∧ (parseMethodDescriptor (mt 34).1.desc).map (fun d => d.parameters.length) = some 1 := ⟨by decide +kernel, by decide +kernel, by decide +kernel⟩
theorem cl_34 : (mt 34).2.2.1 ≤ 45 := by decide
theorem cz_35 : (mt 35).2.2.2.2 = [] := rfl
theorem cc_35 : Cond.code (mt 35).1 (mt 35).2.1 (mt 35).2.2.1 (mt 35).2.2.2.1 ∈ lw_g := mG 1145 (by decide +kernel) rfl
theorem ci_35 : Cond.initialized (mt 35).1.cls ∈ lw_g := w_95
theorem cm_35 : Cond.instanceMethod (mt 35).1 ∈ lw_g := w_1144
theorem cs_35 : Cond.selects (mt 35).1.cls (mt 35).1 (mt 35).1 ∈ lw_g := w_23
theorem cd_35 : (mt 35).1.cls ≠ "java/lang/invoke/MethodHandle" ∧ (mt 35).1.cls ≠ "java/lang/invoke/VarHandle" ∧ (parseMethodDescriptor (mt 35).1.desc).map (fun d => d.parameters.length) = some 0 := ⟨by decide +kernel, by decide +kernel, by decide +kernel⟩
theorem cl_35 : (mt 35).2.2.1 ≤ 45 := by decide
theorem cz_36 : (mt 36).2.2.2.2 = [] := rfl
theorem cc_36 : Cond.code (mt 36).1 (mt 36).2.1 (mt 36).2.2.1 (mt 36).2.2.2.1 ∈ lw_g := mG 1161 (by decide +kernel) rfl
theorem ci_36 : Cond.initialized (mt 36).1.cls ∈ lw_g := w_95
theorem cm_36 : Cond.instanceMethod (mt 36).1 ∈ lw_g := w_1160
theorem cs_36 : Cond.selects (mt 36).1.cls (mt 36).1 (mt 36).1 ∈ lw_g := w_25
theorem cd_36 : (mt 36).1.cls ≠ "java/lang/invoke/MethodHandle" ∧ (mt 36).1.cls ≠ "java/lang/invoke/VarHandle" ∧ (parseMethodDescriptor (mt 36).1.desc).map (fun d => d.parameters.length) = some 0 := ⟨by decide +kernel, by decide +kernel, by decide +kernel⟩
theorem cl_36 : (mt 36).2.2.1 ≤ 45 := by decide
theorem cz_37 : (mt 37).2.2.2.2 = [] := rfl
theorem cc_37 : Cond.code (mt 37).1 (mt 37).2.1 (mt 37).2.2.1 (mt 37).2.2.2.1 ∈ lw_g := mG 1177 (by decide +kernel) rfl
theorem ci_37 : Cond.initialized (mt 37).1.cls ∈ lw_g := w_95
theorem cm_37 : Cond.instanceMethod (mt 37).1 ∈ lw_g := w_1176
theorem cs_37 : Cond.selects (mt 37).1.cls (mt 37).1 (mt 37).1 ∈ lw_g := w_26
theorem cd_37 : (mt 37).1.cls ≠ "java/lang/invoke/MethodHandle" ∧ (mt 37).1.cls ≠ "java/lang/invoke/VarHandle" ∧ (parseMethodDescriptor (mt 37).1.desc).map (fun d => d.parameters.length) = some 0 := ⟨by decide +kernel, by decide +kernel, by decide +kernel⟩
theorem cl_37 : (mt 37).2.2.1 ≤ 45 := by decide
theorem cz_38 : (mt 38).2.2.2.2 = [] := rfl
theorem cc_38 : Cond.code (mt 38).1 (mt 38).2.1 (mt 38).2.2.1 (mt 38).2.2.2.1 ∈ lw_g := mG 1153 (by decide +kernel) rfl
theorem ci_38 : Cond.initialized (mt 38).1.cls ∈ lw_g := w_95
theorem cm_38 : Cond.instanceMethod (mt 38).1 ∈ lw_g := w_1152
theorem cs_38 : Cond.selects (mt 38).1.cls (mt 38).1 (mt 38).1 ∈ lw_g := w_24
theorem cd_38 : (mt 38).1.cls ≠ "java/lang/invoke/MethodHandle" ∧ (mt 38).1.cls ≠ "java/lang/invoke/VarHandle" ∧ (parseMethodDescriptor (mt 38).1.desc).map (fun d => d.parameters.length) = some 2 := ⟨by decide +kernel, by decide +kernel, by decide +kernel⟩
theorem cl_38 : (mt 38).2.2.1 ≤ 45 := by decide
theorem cz_39 : (mt 39).2.2.2.2 = [] := rfl
theorem cc_39 : Cond.code (mt 39).1 (mt 39).2.1 (mt 39).2.2.1 (mt 39).2.2.2.1 ∈ lw_g := mG 1186 (by decide +kernel) rfl
theorem ci_39 : Cond.initialized (mt 39).1.cls ∈ lw_g := w_95
theorem cm_39 : Cond.instanceMethod (mt 39).1 ∈ lw_g := w_1185
theorem cs_39 : Cond.selects (mt 39).1.cls (mt 39).1 (mt 39).1 ∈ lw_g := w_27
theorem cd_39 : (mt 39).1.cls ≠ "java/lang/invoke/MethodHandle" ∧ (mt 39).1.cls ≠ "java/lang/invoke/VarHandle" ∧ (parseMethodDescriptor (mt 39).1.desc).map (fun d => d.parameters.length) = some 1 := ⟨by decide +kernel, by decide +kernel, by decide +kernel⟩
theorem cl_39 : (mt 39).2.2.1 ≤ 45 := by decide
theorem cz_40 : (mt 40).2.2.2.2 = [] := rfl
theorem cc_40 : Cond.code (mt 40).1 (mt 40).2.1 (mt 40).2.2.1 (mt 40).2.2.2.1 ∈ lw_g := mG 1190 (by decide +kernel) rfl
theorem ci_40 : Cond.initialized (mt 40).1.cls ∈ lw_g := w_95
theorem cm_40 : Cond.instanceMethod (mt 40).1 ∈ lw_g := w_1189
theorem cs_40 : Cond.selects (mt 40).1.cls (mt 40).1 (mt 40).1 ∈ lw_g := w_28
theorem cd_40 : (mt 40).1.cls ≠ "java/lang/invoke/MethodHandle" ∧ (mt 40).1.cls ≠ "java/lang/invoke/VarHandle" ∧ (parseMethodDescriptor (mt 40).1.desc).map (fun d => d.parameters.length) = some 2 := ⟨by decide +kernel, by decide +kernel, by decide +kernel⟩
theorem cl_40 : (mt 40).2.2.1 ≤ 45 := by decide
theorem cz_41 : (mt 41).2.2.2.2 = [] := rfl
theorem cc_41 : Cond.code (mt 41).1 (mt 41).2.1 (mt 41).2.2.1 (mt 41).2.2.2.1 ∈ lw_g := mG 208 (by decide +kernel) rfl
theorem ci_41 : Cond.initialized (mt 41).1.cls ∈ lw_g := w_88
theorem cm_41 : Cond.instanceMethod (mt 41).1 ∈ lw_g := w_207
theorem cd_41 : (mt 41).1.cls ≠ "java/lang/invoke/MethodHandle" ∧ (mt 41).1.cls ≠ "java/lang/invoke/VarHandle" ∧ (parseMethodDescriptor (mt 41).1.desc).map (fun d => d.parameters.length) = some 0 := ⟨by decide +kernel, by decide +kernel, by decide +kernel⟩
theorem cl_41 : (mt 41).2.2.1 ≤ 45 := by decide
theorem cz_42 : (mt 42).2.2.2.2 = [] := rfl
theorem cc_42 : Cond.code (mt 42).1 (mt 42).2.1 (mt 42).2.2.1 (mt 42).2.2.2.1 ∈ lw_g := mG 545 (by decide +kernel) rfl
theorem ci_42 : Cond.initialized (mt 42).1.cls ∈ lw_g := w_88
theorem cm_42 : Cond.instanceMethod (mt 42).1 ∈ lw_g := w_543
theorem cs_42 : Cond.selects (mt 42).1.cls (mt 42).1 (mt 42).1 ∈ lw_g := w_544
theorem cd_42 : (mt 42).1.cls ≠ "java/lang/invoke/MethodHandle" ∧ (mt 42).1.cls ≠ "java/lang/invoke/VarHandle" ∧ (parseMethodDescriptor (mt 42).1.desc).map (fun d => d.parameters.length) = some 0 := ⟨by decide +kernel, by decide +kernel, by decide +kernel⟩
theorem cl_42 : (mt 42).2.2.1 ≤ 45 := by decide
theorem cz_43 : (mt 43).2.2.2.2 = [] := rfl
theorem cc_43 : Cond.code (mt 43).1 (mt 43).2.1 (mt 43).2.2.1 (mt 43).2.2.2.1 ∈ lw_g := mG 1452 (by decide +kernel) rfl
theorem ci_43 : Cond.initialized (mt 43).1.cls ∈ lw_g := w_88
theorem cm_43 : Cond.instanceMethod (mt 43).1 ∈ lw_g := w_1450
theorem cs_43 : Cond.selects (mt 43).1.cls (mt 43).1 (mt 43).1 ∈ lw_g := w_1451
theorem cd_43 : (mt 43).1.cls ≠ "java/lang/invoke/MethodHandle" ∧ (mt 43).1.cls ≠ "java/lang/invoke/VarHandle" ∧ (parseMethodDescriptor (mt 43).1.desc).map (fun d => d.parameters.length) = some 0 := ⟨by decide +kernel, by decide +kernel, by decide +kernel⟩
theorem cl_43 : (mt 43).2.2.1 ≤ 45 := by decide
theorem cz_44 : (mt 44).2.2.2.2 = [] := rfl
theorem cc_44 : Cond.code (mt 44).1 (mt 44).2.1 (mt 44).2.2.1 (mt 44).2.2.2.1 ∈ lw_g := mG 565 (by decide +kernel) rfl
theorem ci_44 : Cond.initialized (mt 44).1.cls ∈ lw_g := w_88
theorem cm_44 : Cond.instanceMethod (mt 44).1 ∈ lw_g := w_563
theorem cs_44 : Cond.selects (mt 44).1.cls (mt 44).1 (mt 44).1 ∈ lw_g := w_564
theorem cd_44 : (mt 44).1.cls ≠ "java/lang/invoke/MethodHandle" ∧ (mt 44).1.cls ≠ "java/lang/invoke/VarHandle" ∧ (parseMethodDescriptor (mt 44).1.desc).map (fun d => d.parameters.length) = some 1 := ⟨by decide +kernel, by decide +kernel, by decide +kernel⟩
theorem cl_44 : (mt 44).2.2.1 ≤ 45 := by decide
theorem cz_45 : (mt 45).2.2.2.2 = [] := rfl
theorem cc_45 : Cond.code (mt 45).1 (mt 45).2.1 (mt 45).2.2.1 (mt 45).2.2.2.1 ∈ lw_g := mG 843 (by decide +kernel) rfl
theorem ci_45 : Cond.initialized (mt 45).1.cls ∈ lw_g := w_88
theorem cm_45 : Cond.instanceMethod (mt 45).1 ∈ lw_g := w_841
theorem cs_45 : Cond.selects (mt 45).1.cls (mt 45).1 (mt 45).1 ∈ lw_g := w_842
theorem cd_45 : (mt 45).1.cls ≠ "java/lang/invoke/MethodHandle" ∧ (mt 45).1.cls ≠ "java/lang/invoke/VarHandle" ∧ (parseMethodDescriptor (mt 45).1.desc).map (fun d => d.parameters.length) = some 1 := ⟨by decide +kernel, by decide +kernel, by decide +kernel⟩
theorem cl_45 : (mt 45).2.2.1 ≤ 45 := by decide
theorem cz_46 : (mt 46).2.2.2.2 = [] := rfl
theorem cc_46 : Cond.code (mt 46).1 (mt 46).2.1 (mt 46).2.2.1 (mt 46).2.2.2.1 ∈ lw_g := mG 855 (by decide +kernel) rfl
theorem ci_46 : Cond.initialized (mt 46).1.cls ∈ lw_g := w_88
theorem cm_46 : Cond.instanceMethod (mt 46).1 ∈ lw_g := w_853
theorem cs_46 : Cond.selects (mt 46).1.cls (mt 46).1 (mt 46).1 ∈ lw_g := w_854
theorem cd_46 : (mt 46).1.cls ≠ "java/lang/invoke/MethodHandle" ∧ (mt 46).1.cls ≠ "java/lang/invoke/VarHandle" ∧ (parseMethodDescriptor (mt 46).1.desc).map (fun d => d.parameters.length) = some 1 := ⟨by decide +kernel, by decide +kernel, by decide +kernel⟩
theorem cl_46 : (mt 46).2.2.1 ≤ 45 := by decide
theorem cz_47 : (mt 47).2.2.2.2 = [] := rfl
theorem cc_47 : Cond.code (mt 47).1 (mt 47).2.1 (mt 47).2.2.1 (mt 47).2.2.2.1 ∈ lw_g := mG 847 (by decide +kernel) rfl
theorem ci_47 : Cond.initialized (mt 47).1.cls ∈ lw_g := w_88
theorem cm_47 : Cond.instanceMethod (mt 47).1 ∈ lw_g := w_845
theorem cs_47 : Cond.selects (mt 47).1.cls (mt 47).1 (mt 47).1 ∈ lw_g := w_846
theorem cd_47 : (mt 47).1.cls ≠ "java/lang/invoke/MethodHandle" ∧ (mt 47).1.cls ≠ "java/lang/invoke/VarHandle" ∧ (parseMethodDescriptor (mt 47).1.desc).map (fun d => d.parameters.length) = some 1 := ⟨by decide +kernel, by decide +kernel, by decide +kernel⟩
theorem cl_47 : (mt 47).2.2.1 ≤ 45 := by decide
theorem cz_48 : (mt 48).2.2.2.2 = [] := rfl
theorem cc_48 : Cond.code (mt 48).1 (mt 48).2.1 (mt 48).2.2.1 (mt 48).2.2.2.1 ∈ lw_g := mG 851 (by decide +kernel) rfl
theorem ci_48 : Cond.initialized (mt 48).1.cls ∈ lw_g := w_88
theorem cm_48 : Cond.instanceMethod (mt 48).1 ∈ lw_g := w_849
theorem cs_48 : Cond.selects (mt 48).1.cls (mt 48).1 (mt 48).1 ∈ lw_g := w_850
theorem cd_48 : (mt 48).1.cls ≠ "java/lang/invoke/MethodHandle" ∧ (mt 48).1.cls ≠ "java/lang/invoke/VarHandle" ∧ (parseMethodDescriptor (mt 48).1.desc).map (fun d => d.parameters.length) = some 1 := ⟨by decide +kernel, by decide +kernel, by decide +kernel⟩
theorem cl_48 : (mt 48).2.2.1 ≤ 45 := by decide
theorem cz_49 : (mt 49).2.2.2.2 = [] := rfl
theorem cc_49 : Cond.code (mt 49).1 (mt 49).2.1 (mt 49).2.2.1 (mt 49).2.2.2.1 ∈ lw_g := mG 859 (by decide +kernel) rfl
theorem ci_49 : Cond.initialized (mt 49).1.cls ∈ lw_g := w_88
theorem cm_49 : Cond.instanceMethod (mt 49).1 ∈ lw_g := w_857
theorem cs_49 : Cond.selects (mt 49).1.cls (mt 49).1 (mt 49).1 ∈ lw_g := w_858
theorem cd_49 : (mt 49).1.cls ≠ "java/lang/invoke/MethodHandle" ∧ (mt 49).1.cls ≠ "java/lang/invoke/VarHandle" ∧ (parseMethodDescriptor (mt 49).1.desc).map (fun d => d.parameters.length) = some 1 := ⟨by decide +kernel, by decide +kernel, by decide +kernel⟩
theorem cl_49 : (mt 49).2.2.1 ≤ 45 := by decide
theorem cz_50 : (mt 50).2.2.2.2 = [] := rfl
theorem cc_50 : Cond.code (mt 50).1 (mt 50).2.1 (mt 50).2.2.1 (mt 50).2.2.2.1 ∈ lw_g := mG 561 (by decide +kernel) rfl
theorem ci_50 : Cond.initialized (mt 50).1.cls ∈ lw_g := w_88
theorem cm_50 : Cond.instanceMethod (mt 50).1 ∈ lw_g := w_559
theorem cs_50 : Cond.selects (mt 50).1.cls (mt 50).1 (mt 50).1 ∈ lw_g := w_560
theorem cd_50 : (mt 50).1.cls ≠ "java/lang/invoke/MethodHandle" ∧ (mt 50).1.cls ≠ "java/lang/invoke/VarHandle" ∧ (parseMethodDescriptor (mt 50).1.desc).map (fun d => d.parameters.length) = some 1 := ⟨by decide +kernel, by decide +kernel, by decide +kernel⟩
theorem cl_50 : (mt 50).2.2.1 ≤ 45 := by decide
theorem cz_51 : (mt 51).2.2.2.2 = [] := rfl
theorem cc_51 : Cond.code (mt 51).1 (mt 51).2.1 (mt 51).2.2.1 (mt 51).2.2.2.1 ∈ lw_g := mG 557 (by decide +kernel) rfl
theorem ci_51 : Cond.initialized (mt 51).1.cls ∈ lw_g := w_88
theorem cm_51 : Cond.instanceMethod (mt 51).1 ∈ lw_g := w_555
theorem cs_51 : Cond.selects (mt 51).1.cls (mt 51).1 (mt 51).1 ∈ lw_g := w_556
theorem cd_51 : (mt 51).1.cls ≠ "java/lang/invoke/MethodHandle" ∧ (mt 51).1.cls ≠ "java/lang/invoke/VarHandle" ∧ (parseMethodDescriptor (mt 51).1.desc).map (fun d => d.parameters.length) = some 1 := ⟨by decide +kernel, by decide +kernel, by decide +kernel⟩
theorem cl_51 : (mt 51).2.2.1 ≤ 45 := by decide
theorem cz_52 : (mt 52).2.2.2.2 = [] := rfl
theorem cc_52 : Cond.code (mt 52).1 (mt 52).2.1 (mt 52).2.2.1 (mt 52).2.2.2.1 ∈ lw_g := mG 902 (by decide +kernel) rfl
theorem ci_52 : Cond.initialized (mt 52).1.cls ∈ lw_g := w_88
theorem cm_52 : Cond.instanceMethod (mt 52).1 ∈ lw_g := w_900
theorem cs_52 : Cond.selects (mt 52).1.cls (mt 52).1 (mt 52).1 ∈ lw_g := w_901
theorem cd_52 : (mt 52).1.cls ≠ "java/lang/invoke/MethodHandle" ∧ (mt 52).1.cls ≠ "java/lang/invoke/VarHandle" ∧ (parseMethodDescriptor (mt 52).1.desc).map (fun d => d.parameters.length) = some 2 := ⟨by decide +kernel, by decide +kernel, by decide +kernel⟩
theorem cl_52 : (mt 52).2.2.1 ≤ 45 := by decide
theorem cz_53 : (mt 53).2.2.2.2 = [] := rfl
theorem cc_53 : Cond.code (mt 53).1 (mt 53).2.1 (mt 53).2.2.1 (mt 53).2.2.2.1 ∈ lw_g := mG 908 (by decide +kernel) rfl
theorem ci_53 : Cond.initialized (mt 53).1.cls ∈ lw_g := w_88
theorem cm_53 : Cond.instanceMethod (mt 53).1 ∈ lw_g := w_906
theorem cs_53 : Cond.selects (mt 53).1.cls (mt 53).1 (mt 53).1 ∈ lw_g := w_907
theorem cd_53 : (mt 53).1.cls ≠ "java/lang/invoke/MethodHandle" ∧ (mt 53).1.cls ≠ "java/lang/invoke/VarHandle" ∧ (parseMethodDescriptor (mt 53).1.desc).map (fun d => d.parameters.length) = some 2 := ⟨by decide +kernel, by decide +kernel, by decide +kernel⟩
theorem cl_53 : (mt 53).2.2.1 ≤ 45 := by decide
theorem cz_54 : (mt 54).2.2.2.2 = [] := rfl
theorem cc_54 : Cond.code (mt 54).1 (mt 54).2.1 (mt 54).2.2.1 (mt 54).2.2.2.1 ∈ lw_g := mG 898 (by decide +kernel) rfl
theorem ci_54 : Cond.initialized (mt 54).1.cls ∈ lw_g := w_88
theorem cm_54 : Cond.instanceMethod (mt 54).1 ∈ lw_g := w_896
theorem cs_54 : Cond.selects (mt 54).1.cls (mt 54).1 (mt 54).1 ∈ lw_g := w_897
theorem cd_54 : (mt 54).1.cls ≠ "java/lang/invoke/MethodHandle" ∧ (mt 54).1.cls ≠ "java/lang/invoke/VarHandle" ∧ (parseMethodDescriptor (mt 54).1.desc).map (fun d => d.parameters.length) = some 2 := ⟨by decide +kernel, by decide +kernel, by decide +kernel⟩
theorem cl_54 : (mt 54).2.2.1 ≤ 45 := by decide
theorem cz_55 : (mt 55).2.2.2.2 = [] := rfl
theorem cc_55 : Cond.code (mt 55).1 (mt 55).2.1 (mt 55).2.2.1 (mt 55).2.2.2.1 ∈ lw_g := mG 913 (by decide +kernel) rfl
theorem ci_55 : Cond.initialized (mt 55).1.cls ∈ lw_g := w_88
theorem cm_55 : Cond.instanceMethod (mt 55).1 ∈ lw_g := w_911
theorem cs_55 : Cond.selects (mt 55).1.cls (mt 55).1 (mt 55).1 ∈ lw_g := w_912
theorem cd_55 : (mt 55).1.cls ≠ "java/lang/invoke/MethodHandle" ∧ (mt 55).1.cls ≠ "java/lang/invoke/VarHandle" ∧ (parseMethodDescriptor (mt 55).1.desc).map (fun d => d.parameters.length) = some 2 := ⟨by decide +kernel, by decide +kernel, by decide +kernel⟩
theorem cl_55 : (mt 55).2.2.1 ≤ 45 := by decide
theorem cz_56 : (mt 56).2.2.2.2 = [] := rfl
theorem cc_56 : Cond.code (mt 56).1 (mt 56).2.1 (mt 56).2.2.1 (mt 56).2.2.2.1 ∈ lw_g := mG 917 (by decide +kernel) rfl
theorem ci_56 : Cond.initialized (mt 56).1.cls ∈ lw_g := w_88
theorem cm_56 : Cond.instanceMethod (mt 56).1 ∈ lw_g := w_915
theorem cs_56 : Cond.selects (mt 56).1.cls (mt 56).1 (mt 56).1 ∈ lw_g := w_916
theorem cd_56 : (mt 56).1.cls ≠ "java/lang/invoke/MethodHandle" ∧ (mt 56).1.cls ≠ "java/lang/invoke/VarHandle" ∧ (parseMethodDescriptor (mt 56).1.desc).map (fun d => d.parameters.length) = some 2 := ⟨by decide +kernel, by decide +kernel, by decide +kernel⟩
theorem cl_56 : (mt 56).2.2.1 ≤ 45 := by decide
theorem cz_57 : (mt 57).2.2.2.2 = [] := rfl
theorem cc_57 : Cond.code (mt 57).1 (mt 57).2.1 (mt 57).2.2.1 (mt 57).2.2.2.1 ∈ lw_g := mG 864 (by decide +kernel) rfl
theorem ci_57 : Cond.initialized (mt 57).1.cls ∈ lw_g := w_88
theorem cm_57 : Cond.instanceMethod (mt 57).1 ∈ lw_g := w_862
theorem cs_57 : Cond.selects (mt 57).1.cls (mt 57).1 (mt 57).1 ∈ lw_g := w_863
theorem cd_57 : (mt 57).1.cls ≠ "java/lang/invoke/MethodHandle" ∧ (mt 57).1.cls ≠ "java/lang/invoke/VarHandle" ∧ (parseMethodDescriptor (mt 57).1.desc).map (fun d => d.parameters.length) = some 1 := ⟨by decide +kernel, by decide +kernel, by decide +kernel⟩
theorem cl_57 : (mt 57).2.2.1 ≤ 45 := by decide
theorem cz_58 : (mt 58).2.2.2.2 = [] := rfl
theorem cc_58 : Cond.code (mt 58).1 (mt 58).2.1 (mt 58).2.2.1 (mt 58).2.2.2.1 ∈ lw_g := mG 871 (by decide +kernel) rfl
theorem ci_58 : Cond.initialized (mt 58).1.cls ∈ lw_g := w_88
theorem cm_58 : Cond.instanceMethod (mt 58).1 ∈ lw_g := w_869
theorem cs_58 : Cond.selects (mt 58).1.cls (mt 58).1 (mt 58).1 ∈ lw_g := w_870
theorem cd_58 : (mt 58).1.cls ≠ "java/lang/invoke/MethodHandle" ∧ (mt 58).1.cls ≠ "java/lang/invoke/VarHandle" ∧ (parseMethodDescriptor (mt 58).1.desc).map (fun d => d.parameters.length) = some 1 := ⟨by decide +kernel, by decide +kernel, by decide +kernel⟩
theorem cl_58 : (mt 58).2.2.1 ≤ 45 := by decide
theorem cz_59 : (mt 59).2.2.2.2 = [] := rfl
theorem cc_59 : Cond.code (mt 59).1 (mt 59).2.1 (mt 59).2.2.1 (mt 59).2.2.2.1 ∈ lw_g := mG 867 (by decide +kernel) rfl
theorem ci_59 : Cond.initialized (mt 59).1.cls ∈ lw_g := w_88
theorem cm_59 : Cond.static (mt 59).1 ∈ lw_g := w_866
theorem cd_59 : (mt 59).1.cls ≠ "java/lang/invoke/MethodHandle" ∧ (mt 59).1.cls ≠ "java/lang/invoke/VarHandle" ∧ (parseMethodDescriptor (mt 59).1.desc).map (fun d => d.parameters.length) = some 3 := ⟨by decide +kernel, by decide +kernel, by decide +kernel⟩
theorem cl_59 : (mt 59).2.2.1 ≤ 45 := by decide
theorem cz_60 : (mt 60).2.2.2.2 = [] := rfl
theorem cc_60 : Cond.code (mt 60).1 (mt 60).2.1 (mt 60).2.2.1 (mt 60).2.2.2.1 ∈ lw_g := mG 549 (by decide +kernel) rfl
theorem ci_60 : Cond.initialized (mt 60).1.cls ∈ lw_g := w_88
theorem cm_60 : Cond.instanceMethod (mt 60).1 ∈ lw_g := w_547
theorem cs_60 : Cond.selects (mt 60).1.cls (mt 60).1 (mt 60).1 ∈ lw_g := w_548
theorem cd_60 : (mt 60).1.cls ≠ "java/lang/invoke/MethodHandle" ∧ (mt 60).1.cls ≠ "java/lang/invoke/VarHandle" ∧ (parseMethodDescriptor (mt 60).1.desc).map (fun d => d.parameters.length) = some 0 := ⟨by decide +kernel, by decide +kernel, by decide +kernel⟩
theorem cl_60 : (mt 60).2.2.1 ≤ 45 := by decide
theorem cz_61 : (mt 61).2.2.2.2 = [] := rfl
theorem cc_61 : Cond.code (mt 61).1 (mt 61).2.1 (mt 61).2.2.1 (mt 61).2.2.2.1 ∈ lw_g := mG 575 (by decide +kernel) rfl
theorem ci_61 : Cond.initialized (mt 61).1.cls ∈ lw_g := w_88
theorem cm_61 : Cond.instanceMethod (mt 61).1 ∈ lw_g := w_573
theorem cs_61 : Cond.selects (mt 61).1.cls (mt 61).1 (mt 61).1 ∈ lw_g := w_574
theorem cd_61 : (mt 61).1.cls ≠ "java/lang/invoke/MethodHandle" ∧ (mt 61).1.cls ≠ "java/lang/invoke/VarHandle" ∧ (parseMethodDescriptor (mt 61).1.desc).map (fun d => d.parameters.length) = some 0 := ⟨by decide +kernel, by decide +kernel, by decide +kernel⟩
theorem cl_61 : (mt 61).2.2.1 ≤ 45 := by decide
theorem cz_62 : (mt 62).2.2.2.2 = [] := rfl
theorem cc_62 : Cond.code (mt 62).1 (mt 62).2.1 (mt 62).2.2.1 (mt 62).2.2.2.1 ∈ lw_g := mG 579 (by decide +kernel) rfl
theorem ci_62 : Cond.initialized (mt 62).1.cls ∈ lw_g := w_88
theorem cm_62 : Cond.instanceMethod (mt 62).1 ∈ lw_g := w_577
theorem cs_62 : Cond.selects (mt 62).1.cls (mt 62).1 (mt 62).1 ∈ lw_g := w_578
theorem cd_62 : (mt 62).1.cls ≠ "java/lang/invoke/MethodHandle" ∧ (mt 62).1.cls ≠ "java/lang/invoke/VarHandle" ∧ (parseMethodDescriptor (mt 62).1.desc).map (fun d => d.parameters.length) = some 0 := ⟨by decide +kernel, by decide +kernel, by decide +kernel⟩
theorem cl_62 : (mt 62).2.2.1 ≤ 45 := by decide
theorem cz_63 : (mt 63).2.2.2.2 = [] := rfl
theorem cc_63 : Cond.code (mt 63).1 (mt 63).2.1 (mt 63).2.2.1 (mt 63).2.2.2.1 ∈ lw_g := mG 1457 (by decide +kernel) rfl
theorem ci_63 : Cond.initialized (mt 63).1.cls ∈ lw_g := w_88
theorem cm_63 : Cond.instanceMethod (mt 63).1 ∈ lw_g := w_1455
theorem cs_63 : Cond.selects (mt 63).1.cls (mt 63).1 (mt 63).1 ∈ lw_g := w_1456
theorem cd_63 : (mt 63).1.cls ≠ "java/lang/invoke/MethodHandle" ∧ (mt 63).1.cls ≠ "java/lang/invoke/VarHandle" ∧ (parseMethodDescriptor (mt 63).1.desc).map (fun d => d.parameters.length) = some 2 := ⟨by decide +kernel, by decide +kernel, by decide +kernel⟩
theorem cl_63 : (mt 63).2.2.1 ≤ 45 := by decide
theorem cz_64 : (mt 64).2.2.2.2 = [] := rfl
theorem cc_64 : Cond.code (mt 64).1 (mt 64).2.1 (mt 64).2.2.1 (mt 64).2.2.2.1 ∈ lw_g := mG 889 (by decide +kernel) rfl
theorem ci_64 : Cond.initialized (mt 64).1.cls ∈ lw_g := w_88
theorem cm_64 : Cond.instanceMethod (mt 64).1 ∈ lw_g := w_888
theorem cs_64 : Cond.selects (mt 64).1.cls (mt 64).1 (mt 64).1 ∈ lw_g := w_9
theorem cd_64 : (mt 64).1.cls ≠ "java/lang/invoke/MethodHandle" ∧ (mt 64).1.cls ≠ "java/lang/invoke/VarHandle" ∧ (parseMethodDescriptor (mt 64).1.desc).map (fun d => d.parameters.length) = some 1 := ⟨by decide +kernel, by decide +kernel, by decide +kernel⟩
theorem cl_64 : (mt 64).2.2.1 ≤ 45 := by decide
theorem cz_65 : (mt 65).2.2.2.2 = [] := rfl
theorem cc_65 : Cond.code (mt 65).1 (mt 65).2.1 (mt 65).2.2.1 (mt 65).2.2.2.1 ∈ lw_g := mG 553 (by decide +kernel) rfl
theorem ci_65 : Cond.initialized (mt 65).1.cls ∈ lw_g := w_88
theorem cm_65 : Cond.instanceMethod (mt 65).1 ∈ lw_g := w_552
theorem cs_65 : Cond.selects (mt 65).1.cls (mt 65).1 (mt 65).1 ∈ lw_g := w_1
theorem cd_65 : (mt 65).1.cls ≠ "java/lang/invoke/MethodHandle" ∧ (mt 65).1.cls ≠ "java/lang/invoke/VarHandle" ∧ (parseMethodDescriptor (mt 65).1.desc).map (fun d => d.parameters.length) = some 0 := ⟨by decide +kernel, by decide +kernel, by decide +kernel⟩
theorem cl_65 : (mt 65).2.2.1 ≤ 45 := by decide
theorem cz_66 : (mt 66).2.2.2.2 = [] := rfl
theorem cc_66 : Cond.code (mt 66).1 (mt 66).2.1 (mt 66).2.2.1 (mt 66).2.2.2.1 ∈ lw_g := mG 885 (by decide +kernel) rfl
theorem ci_66 : Cond.initialized (mt 66).1.cls ∈ lw_g := w_88
theorem cm_66 : Cond.instanceMethod (mt 66).1 ∈ lw_g := w_884
theorem cs_66 : Cond.selects (mt 66).1.cls (mt 66).1 (mt 66).1 ∈ lw_g := w_8
theorem cd_66 : (mt 66).1.cls ≠ "java/lang/invoke/MethodHandle" ∧ (mt 66).1.cls ≠ "java/lang/invoke/VarHandle" ∧ (parseMethodDescriptor (mt 66).1.desc).map (fun d => d.parameters.length) = some 1 := ⟨by decide +kernel, by decide +kernel, by decide +kernel⟩
theorem cl_66 : (mt 66).2.2.1 ≤ 45 := by decide
theorem cz_67 : (mt 67).2.2.2.2 = [] := rfl
theorem cc_67 : Cond.code (mt 67).1 (mt 67).2.1 (mt 67).2.2.1 (mt 67).2.2.2.1 ∈ lw_g := mG 1473 (by decide +kernel) rfl
theorem ci_67 : Cond.initialized (mt 67).1.cls ∈ lw_g := w_88
theorem cm_67 : Cond.instanceMethod (mt 67).1 ∈ lw_g := w_1471
theorem cs_67 : Cond.selects (mt 67).1.cls (mt 67).1 (mt 67).1 ∈ lw_g := w_1472
theorem cd_67 : (mt 67).1.cls ≠ "java/lang/invoke/MethodHandle" ∧ (mt 67).1.cls ≠ "java/lang/invoke/VarHandle" ∧ (parseMethodDescriptor (mt 67).1.desc).map (fun d => d.parameters.length) = some 2 := ⟨by decide +kernel, by decide +kernel, by decide +kernel⟩
theorem cl_67 : (mt 67).2.2.1 ≤ 45 := by decide
theorem cz_68 : (mt 68).2.2.2.2 = [] := rfl
theorem cc_68 : Cond.code (mt 68).1 (mt 68).2.1 (mt 68).2.2.1 (mt 68).2.2.2.1 ∈ lw_g := mG 1477 (by decide +kernel) rfl
theorem ci_68 : Cond.initialized (mt 68).1.cls ∈ lw_g := w_88
theorem cm_68 : Cond.instanceMethod (mt 68).1 ∈ lw_g := w_1476
theorem cs_68 : Cond.selects (mt 68).1.cls (mt 68).1 (mt 68).1 ∈ lw_g := w_33
theorem cd_68 : (mt 68).1.cls ≠ "java/lang/invoke/MethodHandle" ∧ (mt 68).1.cls ≠ "java/lang/invoke/VarHandle" ∧ (parseMethodDescriptor (mt 68).1.desc).map (fun d => d.parameters.length) = some 1 := ⟨by decide +kernel, by decide +kernel, by decide +kernel⟩
theorem cl_68 : (mt 68).2.2.1 ≤ 45 := by decide
theorem cz_69 : (mt 69).2.2.2.2 = [] := rfl
theorem cc_69 : Cond.code (mt 69).1 (mt 69).2.1 (mt 69).2.2.1 (mt 69).2.2.2.1 ∈ lw_g := mG 1483 (by decide +kernel) rfl
theorem ci_69 : Cond.initialized (mt 69).1.cls ∈ lw_g := w_88
theorem cm_69 : Cond.instanceMethod (mt 69).1 ∈ lw_g := w_1482
theorem cs_69 : Cond.selects (mt 69).1.cls (mt 69).1 (mt 69).1 ∈ lw_g := w_34
theorem cd_69 : (mt 69).1.cls ≠ "java/lang/invoke/MethodHandle" ∧ (mt 69).1.cls ≠ "java/lang/invoke/VarHandle" ∧ (parseMethodDescriptor (mt 69).1.desc).map (fun d => d.parameters.length) = some 1 := ⟨by decide +kernel, by decide +kernel, by decide +kernel⟩
theorem cl_69 : (mt 69).2.2.1 ≤ 45 := by decide
theorem cz_70 : (mt 70).2.2.2.2 = [] := rfl
theorem cc_70 : Cond.code (mt 70).1 (mt 70).2.1 (mt 70).2.2.1 (mt 70).2.2.2.1 ∈ lw_g := mG 1488 (by decide +kernel) rfl
theorem ci_70 : Cond.initialized (mt 70).1.cls ∈ lw_g := w_88
theorem cm_70 : Cond.instanceMethod (mt 70).1 ∈ lw_g := w_1487
theorem cs_70 : Cond.selects (mt 70).1.cls (mt 70).1 (mt 70).1 ∈ lw_g := w_35
theorem cd_70 : (mt 70).1.cls ≠ "java/lang/invoke/MethodHandle" ∧ (mt 70).1.cls ≠ "java/lang/invoke/VarHandle" ∧ (parseMethodDescriptor (mt 70).1.desc).map (fun d => d.parameters.length) = some 2 := ⟨by decide +kernel, by decide +kernel, by decide +kernel⟩
theorem cl_70 : (mt 70).2.2.1 ≤ 45 := by decide
theorem cz_71 : (mt 71).2.2.2.2 = [] := rfl
theorem cc_71 : Cond.code (mt 71).1 (mt 71).2.1 (mt 71).2.2.1 (mt 71).2.2.2.1 ∈ lw_g := mG 1491 (by decide +kernel) rfl
theorem ci_71 : Cond.initialized (mt 71).1.cls ∈ lw_g := w_88
theorem cm_71 : Cond.static (mt 71).1 ∈ lw_g := w_1490
theorem cd_71 : (mt 71).1.cls ≠ "java/lang/invoke/MethodHandle" ∧ (mt 71).1.cls ≠ "java/lang/invoke/VarHandle" ∧ (parseMethodDescriptor (mt 71).1.desc).map (fun d => d.parameters.length) = some 1 := ⟨by decide +kernel, by decide +kernel, by decide +kernel⟩
theorem cl_71 : (mt 71).2.2.1 ≤ 45 := by decide
theorem cz_72 : (mt 72).2.2.2.2 = [] := rfl
theorem cc_72 : Cond.code (mt 72).1 (mt 72).2.1 (mt 72).2.2.1 (mt 72).2.2.2.1 ∈ lw_g := mG 1503 (by decide +kernel) rfl
theorem ci_72 : Cond.initialized (mt 72).1.cls ∈ lw_g := w_88
theorem cm_72 : Cond.instanceMethod (mt 72).1 ∈ lw_g := w_1501
theorem cs_72 : Cond.selects (mt 72).1.cls (mt 72).1 (mt 72).1 ∈ lw_g := w_1502
theorem cd_72 : (mt 72).1.cls ≠ "java/lang/invoke/MethodHandle" ∧ (mt 72).1.cls ≠ "java/lang/invoke/VarHandle" ∧ (parseMethodDescriptor (mt 72).1.desc).map (fun d => d.parameters.length) = some 1 := ⟨by decide +kernel, by decide +kernel, by decide +kernel⟩
theorem cl_72 : (mt 72).2.2.1 ≤ 45 := by decide
theorem cz_73 : (mt 73).2.2.2.2 = [] := rfl
theorem cc_73 : Cond.code (mt 73).1 (mt 73).2.1 (mt 73).2.2.1 (mt 73).2.2.2.1 ∈ lw_g := mG 880 (by decide +kernel) rfl
theorem ci_73 : Cond.initialized (mt 73).1.cls ∈ lw_g := w_88
theorem cm_73 : Cond.instanceMethod (mt 73).1 ∈ lw_g := w_878
theorem cs_73 : Cond.selects (mt 73).1.cls (mt 73).1 (mt 73).1 ∈ lw_g := w_879
theorem cd_73 : (mt 73).1.cls ≠ "java/lang/invoke/MethodHandle" ∧ (mt 73).1.cls ≠ "java/lang/invoke/VarHandle" ∧ (parseMethodDescriptor (mt 73).1.desc).map (fun d => d.parameters.length) = some 1 := ⟨by decide +kernel, by decide +kernel, by decide +kernel⟩
theorem cl_73 : (mt 73).2.2.1 ≤ 45 := by decide
theorem cz_74 : (mt 74).2.2.2.2 = [] := rfl
theorem cc_74 : Cond.code (mt 74).1 (mt 74).2.1 (mt 74).2.2.1 (mt 74).2.2.2.1 ∈ lw_g := mG 1508 (by decide +kernel) rfl
theorem ci_74 : Cond.initialized (mt 74).1.cls ∈ lw_g := w_88
theorem cm_74 : Cond.instanceMethod (mt 74).1 ∈ lw_g := w_1507
theorem cs_74 : Cond.selects (mt 74).1.cls (mt 74).1 (mt 74).1 ∈ lw_g := w_36
theorem cd_74 : (mt 74).1.cls ≠ "java/lang/invoke/MethodHandle" ∧ (mt 74).1.cls ≠ "java/lang/invoke/VarHandle" ∧ (parseMethodDescriptor (mt 74).1.desc).map (fun d => d.parameters.length) = some 1 := ⟨by decide +kernel, by decide +kernel, by decide +kernel⟩
theorem cl_74 : (mt 74).2.2.1 ≤ 45 := by decide
theorem cz_75 : (mt 75).2.2.2.2 = [] := rfl
theorem cc_75 : Cond.code (mt 75).1 (mt 75).2.1 (mt 75).2.2.1 (mt 75).2.2.2.1 ∈ lw_g := mG 1511 (by decide +kernel) rfl
theorem ci_75 : Cond.initialized (mt 75).1.cls ∈ lw_g := w_88
theorem cm_75 : Cond.static (mt 75).1 ∈ lw_g := w_1510
theorem cd_75 : (mt 75).1.cls ≠ "java/lang/invoke/MethodHandle" ∧ (mt 75).1.cls ≠ "java/lang/invoke/VarHandle" ∧ (parseMethodDescriptor (mt 75).1.desc).map (fun d => d.parameters.length) = some 3 := ⟨by decide +kernel, by decide +kernel, by decide +kernel⟩
theorem cl_75 : (mt 75).2.2.1 ≤ 45 := by decide
theorem cz_76 : (mt 76).2.2.2.2 = [] := rfl
theorem cc_76 : Cond.code (mt 76).1 (mt 76).2.1 (mt 76).2.2.1 (mt 76).2.2.2.1 ∈ lw_g := mG 1523 (by decide +kernel) rfl
theorem ci_76 : Cond.initialized (mt 76).1.cls ∈ lw_g := w_88
theorem cm_76 : Cond.instanceMethod (mt 76).1 ∈ lw_g := w_1521
theorem cs_76 : Cond.selects (mt 76).1.cls (mt 76).1 (mt 76).1 ∈ lw_g := w_1522
theorem cd_76 : (mt 76).1.cls ≠ "java/lang/invoke/MethodHandle" ∧ (mt 76).1.cls ≠ "java/lang/invoke/VarHandle" ∧ (parseMethodDescriptor (mt 76).1.desc).map (fun d => d.parameters.length) = some 2 := ⟨by decide +kernel, by decide +kernel, by decide +kernel⟩
theorem cl_76 : (mt 76).2.2.1 ≤ 45 := by decide
theorem cz_77 : (mt 77).2.2.2.2 = [] := rfl
theorem cc_77 : Cond.code (mt 77).1 (mt 77).2.1 (mt 77).2.2.1 (mt 77).2.2.2.1 ∈ lw_g := mG 928 (by decide +kernel) rfl
theorem ci_77 : Cond.initialized (mt 77).1.cls ∈ lw_g := w_88
theorem cm_77 : Cond.instanceMethod (mt 77).1 ∈ lw_g := w_926
theorem cs_77 : Cond.selects (mt 77).1.cls (mt 77).1 (mt 77).1 ∈ lw_g := w_927
theorem cd_77 : (mt 77).1.cls ≠ "java/lang/invoke/MethodHandle" ∧ (mt 77).1.cls ≠ "java/lang/invoke/VarHandle" ∧ (parseMethodDescriptor (mt 77).1.desc).map (fun d => d.parameters.length) = some 2 := ⟨by decide +kernel, by decide +kernel, by decide +kernel⟩
theorem cl_77 : (mt 77).2.2.1 ≤ 45 := by decide
theorem cz_78 : (mt 78).2.2.2.2 = [] := rfl
theorem cc_78 : Cond.code (mt 78).1 (mt 78).2.1 (mt 78).2.2.1 (mt 78).2.2.2.1 ∈ lw_g := mG 273 (by decide +kernel) rfl
theorem ci_78 : Cond.initialized (mt 78).1.cls ∈ lw_g := w_90
theorem cm_78 : Cond.instanceMethod (mt 78).1 ∈ lw_g := w_272
theorem cd_78 : (mt 78).1.cls ≠ "java/lang/invoke/MethodHandle" ∧ (mt 78).1.cls ≠ "java/lang/invoke/VarHandle" ∧ (parseMethodDescriptor (mt 78).1.desc).map (fun d => d.parameters.length) = some 3 := ⟨by decide +kernel, by decide +kernel, by decide +kernel⟩
theorem cl_78 : (mt 78).2.2.1 ≤ 45 := by decide
theorem cz_79 : (mt 79).2.2.2.2 = [] := rfl
theorem cc_79 : Cond.code (mt 79).1 (mt 79).2.1 (mt 79).2.2.1 (mt 79).2.2.2.1 ∈ lw_g := mG 932 (by decide +kernel) rfl
theorem ci_79 : Cond.initialized (mt 79).1.cls ∈ lw_g := w_90
theorem cm_79 : Cond.instanceMethod (mt 79).1 ∈ lw_g := w_930
theorem cs_79 : Cond.selects (mt 79).1.cls (mt 79).1 (mt 79).1 ∈ lw_g := w_931
theorem cd_79 : (mt 79).1.cls ≠ "java/lang/invoke/MethodHandle" ∧ (mt 79).1.cls ≠ "java/lang/invoke/VarHandle" ∧ (parseMethodDescriptor (mt 79).1.desc).map (fun d => d.parameters.length) = some 0 := ⟨by decide +kernel, by decide +kernel, by decide +kernel⟩
theorem cl_79 : (mt 79).2.2.1 ≤ 45 := by decide
theorem cz_80 : (mt 80).2.2.2.2 = [] := rfl
theorem cc_80 : Cond.code (mt 80).1 (mt 80).2.1 (mt 80).2.2.1 (mt 80).2.2.2.1 ∈ lw_g := mG 964 (by decide +kernel) rfl
theorem ci_80 : Cond.initialized (mt 80).1.cls ∈ lw_g := w_90
theorem cm_80 : Cond.instanceMethod (mt 80).1 ∈ lw_g := w_962
theorem cs_80 : Cond.selects (mt 80).1.cls (mt 80).1 (mt 80).1 ∈ lw_g := w_963
theorem cd_80 : (mt 80).1.cls ≠ "java/lang/invoke/MethodHandle" ∧ (mt 80).1.cls ≠ "java/lang/invoke/VarHandle" ∧ (parseMethodDescriptor (mt 80).1.desc).map (fun d => d.parameters.length) = some 0 := ⟨by decide +kernel, by decide +kernel, by decide +kernel⟩
theorem cl_80 : (mt 80).2.2.1 ≤ 45 := by decide
theorem cz_81 : (mt 81).2.2.2.2 = [] := rfl
theorem cc_81 : Cond.code (mt 81).1 (mt 81).2.1 (mt 81).2.2.1 (mt 81).2.2.2.1 ∈ lw_g := mG 960 (by decide +kernel) rfl
theorem ci_81 : Cond.initialized (mt 81).1.cls ∈ lw_g := w_90
theorem cm_81 : Cond.instanceMethod (mt 81).1 ∈ lw_g := w_958
theorem cs_81 : Cond.selects (mt 81).1.cls (mt 81).1 (mt 81).1 ∈ lw_g := w_959
theorem cd_81 : (mt 81).1.cls ≠ "java/lang/invoke/MethodHandle" ∧ (mt 81).1.cls ≠ "java/lang/invoke/VarHandle" ∧ (parseMethodDescriptor (mt 81).1.desc).map (fun d => d.parameters.length) = some 0 := ⟨by decide +kernel, by decide +kernel, by decide +kernel⟩
theorem cl_81 : (mt 81).2.2.1 ≤ 45 := by decide
theorem cz_82 : (mt 82).2.2.2.2 = [] := rfl
theorem cc_82 : Cond.code (mt 82).1 (mt 82).2.1 (mt 82).2.2.1 (mt 82).2.2.2.1 ∈ lw_g := mG 968 (by decide +kernel) rfl
theorem ci_82 : Cond.initialized (mt 82).1.cls ∈ lw_g := w_90
theorem cm_82 : Cond.instanceMethod (mt 82).1 ∈ lw_g := w_966
theorem cs_82 : Cond.selects (mt 82).1.cls (mt 82).1 (mt 82).1 ∈ lw_g := w_967
theorem cd_82 : (mt 82).1.cls ≠ "java/lang/invoke/MethodHandle" ∧ (mt 82).1.cls ≠ "java/lang/invoke/VarHandle" ∧ (parseMethodDescriptor (mt 82).1.desc).map (fun d => d.parameters.length) = some 5 := ⟨by decide +kernel, by decide +kernel, by decide +kernel⟩
theorem cl_82 : (mt 82).2.2.1 ≤ 45 := by decide
theorem cz_83 : (mt 83).2.2.2.2 = [] := rfl
theorem cc_83 : Cond.code (mt 83).1 (mt 83).2.1 (mt 83).2.2.1 (mt 83).2.2.2.1 ∈ lw_g := mG 1203 (by decide +kernel) rfl
theorem ci_83 : Cond.initialized (mt 83).1.cls ∈ lw_g := w_90
theorem cm_83 : Cond.instanceMethod (mt 83).1 ∈ lw_g := w_1202
theorem cs_83 : Cond.selects (mt 83).1.cls (mt 83).1 (mt 83).1 ∈ lw_g := w_29
theorem cd_83 : (mt 83).1.cls ≠ "java/lang/invoke/MethodHandle" ∧ (mt 83).1.cls ≠ "java/lang/invoke/VarHandle" ∧ (parseMethodDescriptor (mt 83).1.desc).map (fun d => d.parameters.length) = some 1 := ⟨by decide +kernel, by decide +kernel, by decide +kernel⟩
theorem cl_83 : (mt 83).2.2.1 ≤ 45 := by decide
theorem cz_84 : (mt 84).2.2.2.2 = [] := rfl
theorem cc_84 : Cond.code (mt 84).1 (mt 84).2.1 (mt 84).2.2.1 (mt 84).2.2.2.1 ∈ lw_g := mG 1230 (by decide +kernel) rfl
theorem ci_84 : Cond.initialized (mt 84).1.cls ∈ lw_g := w_90
theorem cm_84 : Cond.instanceMethod (mt 84).1 ∈ lw_g := w_1229
theorem cs_84 : Cond.selects (mt 84).1.cls (mt 84).1 (mt 84).1 ∈ lw_g := w_30
theorem cd_84 : (mt 84).1.cls ≠ "java/lang/invoke/MethodHandle" ∧ (mt 84).1.cls ≠ "java/lang/invoke/VarHandle" ∧ (parseMethodDescriptor (mt 84).1.desc).map (fun d => d.parameters.length) = some 3 := ⟨by decide +kernel, by decide +kernel, by decide +kernel⟩
theorem cl_84 : (mt 84).2.2.1 ≤ 45 := by decide
theorem cz_85 : (mt 85).2.2.2.2 = [] := rfl
theorem cc_85 : Cond.code (mt 85).1 (mt 85).2.1 (mt 85).2.2.1 (mt 85).2.2.2.1 ∈ lw_g := mG 1407 (by decide +kernel) rfl
theorem ci_85 : Cond.initialized (mt 85).1.cls ∈ lw_g := w_90
theorem cm_85 : Cond.instanceMethod (mt 85).1 ∈ lw_g := w_1405
theorem cs_85 : Cond.selects (mt 85).1.cls (mt 85).1 (mt 85).1 ∈ lw_g := w_1406
theorem cd_85 : (mt 85).1.cls ≠ "java/lang/invoke/MethodHandle" ∧ (mt 85).1.cls ≠ "java/lang/invoke/VarHandle" ∧ (parseMethodDescriptor (mt 85).1.desc).map (fun d => d.parameters.length) = some 1 := ⟨by decide +kernel, by decide +kernel, by decide +kernel⟩
theorem cl_85 : (mt 85).2.2.1 ≤ 45 := by decide
theorem cz_86 : (mt 86).2.2.2.2 = [] := rfl
theorem cc_86 : Cond.code (mt 86).1 (mt 86).2.1 (mt 86).2.2.1 (mt 86).2.2.2.1 ∈ lw_g := mG 1418 (by decide +kernel) rfl
theorem ci_86 : Cond.initialized (mt 86).1.cls ∈ lw_g := w_90
theorem cm_86 : Cond.instanceMethod (mt 86).1 ∈ lw_g := w_1417
theorem cs_86 : Cond.selects (mt 86).1.cls (mt 86).1 (mt 86).1 ∈ lw_g := w_32
theorem cd_86 : (mt 86).1.cls ≠ "java/lang/invoke/MethodHandle" ∧ (mt 86).1.cls ≠ "java/lang/invoke/VarHandle" ∧ (parseMethodDescriptor (mt 86).1.desc).map (fun d => d.parameters.length) = some 4 := ⟨by decide +kernel, by decide +kernel, by decide +kernel⟩
theorem cl_86 : (mt 86).2.2.1 ≤ 45 := by decide
theorem cz_87 : (mt 87).2.2.2.2 = [] := rfl
theorem cc_87 : Cond.code (mt 87).1 (mt 87).2.1 (mt 87).2.2.1 (mt 87).2.2.2.1 ∈ lw_g := mG 119 (by decide +kernel) rfl
theorem ci_87 : Cond.initialized (mt 87).1.cls ∈ lw_g := w_85
theorem cm_87 : Cond.instanceMethod (mt 87).1 ∈ lw_g := w_118
theorem cd_87 : (mt 87).1.cls ≠ "java/lang/invoke/MethodHandle" ∧ (mt 87).1.cls ≠ "java/lang/invoke/VarHandle" ∧ (parseMethodDescriptor (mt 87).1.desc).map (fun d => d.parameters.length) = some 0 := ⟨by decide +kernel, by decide +kernel, by decide +kernel⟩
theorem cl_87 : (mt 87).2.2.1 ≤ 45 := by decide
theorem cz_88 : (mt 88).2.2.2.2 = [] := rfl
theorem cc_88 : Cond.code (mt 88).1 (mt 88).2.1 (mt 88).2.2.1 (mt 88).2.2.2.1 ∈ lw_g := mG 533 (by decide +kernel) rfl
theorem ci_88 : Cond.initialized (mt 88).1.cls ∈ lw_g := w_85
theorem cm_88 : Cond.instanceMethod (mt 88).1 ∈ lw_g := w_531
theorem cs_88 : Cond.selects (mt 88).1.cls (mt 88).1 (mt 88).1 ∈ lw_g := w_532
theorem cd_88 : (mt 88).1.cls ≠ "java/lang/invoke/MethodHandle" ∧ (mt 88).1.cls ≠ "java/lang/invoke/VarHandle" ∧ (parseMethodDescriptor (mt 88).1.desc).map (fun d => d.parameters.length) = some 0 := ⟨by decide +kernel, by decide +kernel, by decide +kernel⟩
theorem cl_88 : (mt 88).2.2.1 ≤ 45 := by decide
theorem cz_89 : (mt 89).2.2.2.2 = [] := rfl
theorem cc_89 : Cond.code (mt 89).1 (mt 89).2.1 (mt 89).2.2.1 (mt 89).2.2.2.1 ∈ lw_g := mG 1258 (by decide +kernel) rfl
theorem ci_89 : Cond.initialized (mt 89).1.cls ∈ lw_g := w_85
theorem cm_89 : Cond.instanceMethod (mt 89).1 ∈ lw_g := w_1256
theorem cs_89 : Cond.selects (mt 89).1.cls (mt 89).1 (mt 89).1 ∈ lw_g := w_1257
theorem cd_89 : (mt 89).1.cls ≠ "java/lang/invoke/MethodHandle" ∧ (mt 89).1.cls ≠ "java/lang/invoke/VarHandle" ∧ (parseMethodDescriptor (mt 89).1.desc).map (fun d => d.parameters.length) = some 0 := ⟨by decide +kernel, by decide +kernel, by decide +kernel⟩
theorem cl_89 : (mt 89).2.2.1 ≤ 45 := by decide
theorem cz_90 : (mt 90).2.2.2.2 = [] := rfl
theorem cc_90 : Cond.code (mt 90).1 (mt 90).2.1 (mt 90).2.2.1 (mt 90).2.2.2.1 ∈ lw_g := mG 699 (by decide +kernel) rfl
theorem ci_90 : Cond.initialized (mt 90).1.cls ∈ lw_g := w_85
theorem cm_90 : Cond.instanceMethod (mt 90).1 ∈ lw_g := w_697
theorem cs_90 : Cond.selects (mt 90).1.cls (mt 90).1 (mt 90).1 ∈ lw_g := w_698
theorem cd_90 : (mt 90).1.cls ≠ "java/lang/invoke/MethodHandle" ∧ (mt 90).1.cls ≠ "java/lang/invoke/VarHandle" ∧ (parseMethodDescriptor (mt 90).1.desc).map (fun d => d.parameters.length) = some 1 := ⟨by decide +kernel, by decide +kernel, by decide +kernel⟩
theorem cl_90 : (mt 90).2.2.1 ≤ 45 := by decide
theorem cz_91 : (mt 91).2.2.2.2 = [] := rfl
theorem cc_91 : Cond.code (mt 91).1 (mt 91).2.1 (mt 91).2.2.1 (mt 91).2.2.2.1 ∈ lw_g := mG 1369 (by decide +kernel) rfl
theorem ci_91 : Cond.initialized (mt 91).1.cls ∈ lw_g := w_85
theorem cm_91 : Cond.instanceMethod (mt 91).1 ∈ lw_g := w_1367
theorem cs_91 : Cond.selects (mt 91).1.cls (mt 91).1 (mt 91).1 ∈ lw_g := w_1368
theorem cd_91 : (mt 91).1.cls ≠ "java/lang/invoke/MethodHandle" ∧ (mt 91).1.cls ≠ "java/lang/invoke/VarHandle" ∧ (parseMethodDescriptor (mt 91).1.desc).map (fun d => d.parameters.length) = some 1 := ⟨by decide +kernel, by decide +kernel, by decide +kernel⟩
theorem cl_91 : (mt 91).2.2.1 ≤ 45 := by decide
theorem cz_92 : (mt 92).2.2.2.2 = [] := rfl
theorem cc_92 : Cond.code (mt 92).1 (mt 92).2.1 (mt 92).2.2.1 (mt 92).2.2.2.1 ∈ lw_g := mG 1263 (by decide +kernel) rfl
theorem ci_92 : Cond.initialized (mt 92).1.cls ∈ lw_g := w_85
theorem cm_92 : Cond.instanceMethod (mt 92).1 ∈ lw_g := w_1261
theorem cs_92 : Cond.selects (mt 92).1.cls (mt 92).1 (mt 92).1 ∈ lw_g := w_1262
theorem cd_92 : (mt 92).1.cls ≠ "java/lang/invoke/MethodHandle" ∧ (mt 92).1.cls ≠ "java/lang/invoke/VarHandle" ∧ (parseMethodDescriptor (mt 92).1.desc).map (fun d => d.parameters.length) = some 0 := ⟨by decide +kernel, by decide +kernel, by decide +kernel⟩
theorem cl_92 : (mt 92).2.2.1 ≤ 45 := by decide
theorem cz_93 : (mt 93).2.2.2.2 = [] := rfl
theorem cc_93 : Cond.code (mt 93).1 (mt 93).2.1 (mt 93).2.2.1 (mt 93).2.2.2.1 ∈ lw_g := mG 723 (by decide +kernel) rfl
theorem ci_93 : Cond.initialized (mt 93).1.cls ∈ lw_g := w_85
theorem cm_93 : Cond.instanceMethod (mt 93).1 ∈ lw_g := w_721
theorem cs_93 : Cond.selects (mt 93).1.cls (mt 93).1 (mt 93).1 ∈ lw_g := w_722
theorem cd_93 : (mt 93).1.cls ≠ "java/lang/invoke/MethodHandle" ∧ (mt 93).1.cls ≠ "java/lang/invoke/VarHandle" ∧ (parseMethodDescriptor (mt 93).1.desc).map (fun d => d.parameters.length) = some 1 := ⟨by decide +kernel, by decide +kernel, by decide +kernel⟩
theorem cl_93 : (mt 93).2.2.1 ≤ 45 := by decide
theorem cz_94 : (mt 94).2.2.2.2 = [] := rfl
theorem cc_94 : Cond.code (mt 94).1 (mt 94).2.1 (mt 94).2.2.1 (mt 94).2.2.2.1 ∈ lw_g := mG 1016 (by decide +kernel) rfl
theorem ci_94 : Cond.initialized (mt 94).1.cls ∈ lw_g := w_85
theorem cm_94 : Cond.instanceMethod (mt 94).1 ∈ lw_g := w_1014
theorem cs_94 : Cond.selects (mt 94).1.cls (mt 94).1 (mt 94).1 ∈ lw_g := w_1015
theorem cd_94 : (mt 94).1.cls ≠ "java/lang/invoke/MethodHandle" ∧ (mt 94).1.cls ≠ "java/lang/invoke/VarHandle" ∧ (parseMethodDescriptor (mt 94).1.desc).map (fun d => d.parameters.length) = some 1 := ⟨by decide +kernel, by decide +kernel, by decide +kernel⟩
theorem cl_94 : (mt 94).2.2.1 ≤ 45 := by decide
theorem cz_95 : (mt 95).2.2.2.2 = [] := rfl
theorem cc_95 : Cond.code (mt 95).1 (mt 95).2.1 (mt 95).2.2.1 (mt 95).2.2.2.1 ∈ lw_g := mG 994 (by decide +kernel) rfl
theorem ci_95 : Cond.initialized (mt 95).1.cls ∈ lw_g := w_85
theorem cm_95 : Cond.instanceMethod (mt 95).1 ∈ lw_g := w_992
theorem cs_95 : Cond.selects (mt 95).1.cls (mt 95).1 (mt 95).1 ∈ lw_g := w_993
theorem cd_95 : (mt 95).1.cls ≠ "java/lang/invoke/MethodHandle" ∧ (mt 95).1.cls ≠ "java/lang/invoke/VarHandle" ∧ (parseMethodDescriptor (mt 95).1.desc).map (fun d => d.parameters.length) = some 1 := ⟨by decide +kernel, by decide +kernel, by decide +kernel⟩
theorem cl_95 : (mt 95).2.2.1 ≤ 45 := by decide
theorem cz_96 : (mt 96).2.2.2.2 = [] := rfl
theorem cc_96 : Cond.code (mt 96).1 (mt 96).2.1 (mt 96).2.2.1 (mt 96).2.2.2.1 ∈ lw_g := mG 1321 (by decide +kernel) rfl
theorem ci_96 : Cond.initialized (mt 96).1.cls ∈ lw_g := w_85
theorem cm_96 : Cond.instanceMethod (mt 96).1 ∈ lw_g := w_1319
theorem cs_96 : Cond.selects (mt 96).1.cls (mt 96).1 (mt 96).1 ∈ lw_g := w_1320
theorem cd_96 : (mt 96).1.cls ≠ "java/lang/invoke/MethodHandle" ∧ (mt 96).1.cls ≠ "java/lang/invoke/VarHandle" ∧ (parseMethodDescriptor (mt 96).1.desc).map (fun d => d.parameters.length) = some 2 := ⟨by decide +kernel, by decide +kernel, by decide +kernel⟩
theorem cl_96 : (mt 96).2.2.1 ≤ 45 := by decide
theorem cz_97 : (mt 97).2.2.2.2 = [] := rfl
theorem cc_97 : Cond.code (mt 97).1 (mt 97).2.1 (mt 97).2.2.1 (mt 97).2.2.2.1 ∈ lw_g := mG 1341 (by decide +kernel) rfl
theorem ci_97 : Cond.initialized (mt 97).1.cls ∈ lw_g := w_85
theorem cm_97 : Cond.instanceMethod (mt 97).1 ∈ lw_g := w_1339
theorem cs_97 : Cond.selects (mt 97).1.cls (mt 97).1 (mt 97).1 ∈ lw_g := w_1340
theorem cd_97 : (mt 97).1.cls ≠ "java/lang/invoke/MethodHandle" ∧ (mt 97).1.cls ≠ "java/lang/invoke/VarHandle" ∧ (parseMethodDescriptor (mt 97).1.desc).map (fun d => d.parameters.length) = some 5 := ⟨by decide +kernel, by decide +kernel, by decide +kernel⟩
theorem cl_97 : (mt 97).2.2.1 ≤ 45 := by decide
theorem cz_98 : (mt 98).2.2.2.2 = [] := rfl
theorem cc_98 : Cond.code (mt 98).1 (mt 98).2.1 (mt 98).2.2.1 (mt 98).2.2.2.1 ∈ lw_g := mG 1345 (by decide +kernel) rfl
theorem ci_98 : Cond.initialized (mt 98).1.cls ∈ lw_g := w_85
theorem cm_98 : Cond.instanceMethod (mt 98).1 ∈ lw_g := w_1343
theorem cs_98 : Cond.selects (mt 98).1.cls (mt 98).1 (mt 98).1 ∈ lw_g := w_1344
theorem cd_98 : (mt 98).1.cls ≠ "java/lang/invoke/MethodHandle" ∧ (mt 98).1.cls ≠ "java/lang/invoke/VarHandle" ∧ (parseMethodDescriptor (mt 98).1.desc).map (fun d => d.parameters.length) = some 2 := ⟨by decide +kernel, by decide +kernel, by decide +kernel⟩
theorem cl_98 : (mt 98).2.2.1 ≤ 45 := by decide
theorem cz_99 : (mt 99).2.2.2.2 = [] := rfl
theorem cc_99 : Cond.code (mt 99).1 (mt 99).2.1 (mt 99).2.2.1 (mt 99).2.2.2.1 ∈ lw_g := mG 1357 (by decide +kernel) rfl
theorem ci_99 : Cond.initialized (mt 99).1.cls ∈ lw_g := w_85
theorem cm_99 : Cond.instanceMethod (mt 99).1 ∈ lw_g := w_1355
theorem cs_99 : Cond.selects (mt 99).1.cls (mt 99).1 (mt 99).1 ∈ lw_g := w_1356
theorem cd_99 : (mt 99).1.cls ≠ "java/lang/invoke/MethodHandle" ∧ (mt 99).1.cls ≠ "java/lang/invoke/VarHandle" ∧ (parseMethodDescriptor (mt 99).1.desc).map (fun d => d.parameters.length) = some 4 := ⟨by decide +kernel, by decide +kernel, by decide +kernel⟩
theorem cl_99 : (mt 99).2.2.1 ≤ 45 := by decide
theorem cz_100 : (mt 100).2.2.2.2 = [] := rfl
theorem cc_100 : Cond.code (mt 100).1 (mt 100).2.1 (mt 100).2.2.1 (mt 100).2.2.2.1 ∈ lw_g := mG 1033 (by decide +kernel) rfl
theorem ci_100 : Cond.initialized (mt 100).1.cls ∈ lw_g := w_85
theorem cm_100 : Cond.instanceMethod (mt 100).1 ∈ lw_g := w_1031
theorem cs_100 : Cond.selects (mt 100).1.cls (mt 100).1 (mt 100).1 ∈ lw_g := w_1032
theorem cd_100 : (mt 100).1.cls ≠ "java/lang/invoke/MethodHandle" ∧ (mt 100).1.cls ≠ "java/lang/invoke/VarHandle" ∧ (parseMethodDescriptor (mt 100).1.desc).map (fun d => d.parameters.length) = some 2 := ⟨by decide +kernel, by decide +kernel, by decide +kernel⟩
theorem cl_100 : (mt 100).2.2.1 ≤ 45 := by decide
theorem cz_101 : (mt 101).2.2.2.2 = [] := rfl
theorem cc_101 : Cond.code (mt 101).1 (mt 101).2.1 (mt 101).2.2.1 (mt 101).2.2.2.1 ∈ lw_g := mG 1055 (by decide +kernel) rfl
theorem ci_101 : Cond.initialized (mt 101).1.cls ∈ lw_g := w_85
theorem cm_101 : Cond.instanceMethod (mt 101).1 ∈ lw_g := w_1053
theorem cs_101 : Cond.selects (mt 101).1.cls (mt 101).1 (mt 101).1 ∈ lw_g := w_1054
theorem cd_101 : (mt 101).1.cls ≠ "java/lang/invoke/MethodHandle" ∧ (mt 101).1.cls ≠ "java/lang/invoke/VarHandle" ∧ (parseMethodDescriptor (mt 101).1.desc).map (fun d => d.parameters.length) = some 2 := ⟨by decide +kernel, by decide +kernel, by decide +kernel⟩
theorem cl_101 : (mt 101).2.2.1 ≤ 45 := by decide
theorem cz_102 : (mt 102).2.2.2.2 = [] := rfl
theorem cc_102 : Cond.code (mt 102).1 (mt 102).2.1 (mt 102).2.2.1 (mt 102).2.2.2.1 ∈ lw_g := mG 1059 (by decide +kernel) rfl
theorem ci_102 : Cond.initialized (mt 102).1.cls ∈ lw_g := w_85
theorem cm_102 : Cond.instanceMethod (mt 102).1 ∈ lw_g := w_1057
theorem cs_102 : Cond.selects (mt 102).1.cls (mt 102).1 (mt 102).1 ∈ lw_g := w_1058
theorem cd_102 : (mt 102).1.cls ≠ "java/lang/invoke/MethodHandle" ∧ (mt 102).1.cls ≠ "java/lang/invoke/VarHandle" ∧ (parseMethodDescriptor (mt 102).1.desc).map (fun d => d.parameters.length) = some 2 := ⟨by decide +kernel, by decide +kernel, by decide +kernel⟩
theorem cl_102 : (mt 102).2.2.1 ≤ 45 := by decide
theorem cz_103 : (mt 103).2.2.2.2 = [] := rfl
theorem cc_103 : Cond.code (mt 103).1 (mt 103).2.1 (mt 103).2.2.1 (mt 103).2.2.2.1 ∈ lw_g := mG 1040 (by decide +kernel) rfl
theorem ci_103 : Cond.initialized (mt 103).1.cls ∈ lw_g := w_85
theorem cm_103 : Cond.instanceMethod (mt 103).1 ∈ lw_g := w_1038
theorem cs_103 : Cond.selects (mt 103).1.cls (mt 103).1 (mt 103).1 ∈ lw_g := w_1039
theorem cd_103 : (mt 103).1.cls ≠ "java/lang/invoke/MethodHandle" ∧ (mt 103).1.cls ≠ "java/lang/invoke/VarHandle" ∧ (parseMethodDescriptor (mt 103).1.desc).map (fun d => d.parameters.length) = some 2 := ⟨by decide +kernel, by decide +kernel, by decide +kernel⟩
theorem cl_103 : (mt 103).2.2.1 ≤ 45 := by decide
theorem cz_104 : (mt 104).2.2.2.2 = [] := rfl
theorem cc_104 : Cond.code (mt 104).1 (mt 104).2.1 (mt 104).2.2.1 (mt 104).2.2.2.1 ∈ lw_g := mG 1047 (by decide +kernel) rfl
theorem ci_104 : Cond.initialized (mt 104).1.cls ∈ lw_g := w_85
theorem cm_104 : Cond.instanceMethod (mt 104).1 ∈ lw_g := w_1045
theorem cs_104 : Cond.selects (mt 104).1.cls (mt 104).1 (mt 104).1 ∈ lw_g := w_1046
theorem cd_104 : (mt 104).1.cls ≠ "java/lang/invoke/MethodHandle" ∧ (mt 104).1.cls ≠ "java/lang/invoke/VarHandle" ∧ (parseMethodDescriptor (mt 104).1.desc).map (fun d => d.parameters.length) = some 2 := ⟨by decide +kernel, by decide +kernel, by decide +kernel⟩
theorem cl_104 : (mt 104).2.2.1 ≤ 45 := by decide
theorem cz_105 : (mt 105).2.2.2.2 = [] := rfl
theorem cc_105 : Cond.code (mt 105).1 (mt 105).2.1 (mt 105).2.2.1 (mt 105).2.2.2.1 ∈ lw_g := mG 1063 (by decide +kernel) rfl
theorem ci_105 : Cond.initialized (mt 105).1.cls ∈ lw_g := w_85
theorem cm_105 : Cond.instanceMethod (mt 105).1 ∈ lw_g := w_1061
theorem cs_105 : Cond.selects (mt 105).1.cls (mt 105).1 (mt 105).1 ∈ lw_g := w_1062
theorem cd_105 : (mt 105).1.cls ≠ "java/lang/invoke/MethodHandle" ∧ (mt 105).1.cls ≠ "java/lang/invoke/VarHandle" ∧ (parseMethodDescriptor (mt 105).1.desc).map (fun d => d.parameters.length) = some 2 := ⟨by decide +kernel, by decide +kernel, by decide +kernel⟩
theorem cl_105 : (mt 105).2.2.1 ≤ 45 := by decide
theorem cz_106 : (mt 106).2.2.2.2 = [] := rfl
theorem cc_106 : Cond.code (mt 106).1 (mt 106).2.1 (mt 106).2.2.1 (mt 106).2.2.2.1 ∈ lw_g := mG 361 (by decide +kernel) rfl
theorem ci_106 : Cond.initialized (mt 106).1.cls ∈ lw_g := w_94
theorem cm_106 : Cond.instanceMethod (mt 106).1 ∈ lw_g := w_360
theorem cd_106 : (mt 106).1.cls ≠ "java/lang/invoke/MethodHandle" ∧ (mt 106).1.cls ≠ "java/lang/invoke/VarHandle" ∧ (parseMethodDescriptor (mt 106).1.desc).map (fun d => d.parameters.length) = some 3 := ⟨by decide +kernel, by decide +kernel, by decide +kernel⟩
theorem cl_106 : (mt 106).2.2.1 ≤ 45 := by decide
theorem cz_107 : (mt 107).2.2.2.2 = [] := rfl
theorem cc_107 : Cond.code (mt 107).1 (mt 107).2.1 (mt 107).2.2.1 (mt 107).2.2.2.1 ∈ lw_g := mG 603 (by decide +kernel) rfl
theorem ci_107 : Cond.initialized (mt 107).1.cls ∈ lw_g := w_94
theorem cm_107 : Cond.instanceMethod (mt 107).1 ∈ lw_g := w_601
theorem cs_107 : Cond.selects (mt 107).1.cls (mt 107).1 (mt 107).1 ∈ lw_g := w_602
theorem cd_107 : (mt 107).1.cls ≠ "java/lang/invoke/MethodHandle" ∧ (mt 107).1.cls ≠ "java/lang/invoke/VarHandle" ∧ (parseMethodDescriptor (mt 107).1.desc).map (fun d => d.parameters.length) = some 1 := ⟨by decide +kernel, by decide +kernel, by decide +kernel⟩
theorem cl_107 : (mt 107).2.2.1 ≤ 45 := by decide
theorem cz_108 : (mt 108).2.2.2.2 = [] := rfl
theorem cc_108 : Cond.code (mt 108).1 (mt 108).2.1 (mt 108).2.2.1 (mt 108).2.2.2.1 ∈ lw_g := mG 1165 (by decide +kernel) rfl
theorem ci_108 : Cond.initialized (mt 108).1.cls ∈ lw_g := w_94
theorem cm_108 : Cond.instanceMethod (mt 108).1 ∈ lw_g := w_1163
theorem cs_108 : Cond.selects (mt 108).1.cls (mt 108).1 (mt 108).1 ∈ lw_g := w_1164
theorem cd_108 : (mt 108).1.cls ≠ "java/lang/invoke/MethodHandle" ∧ (mt 108).1.cls ≠ "java/lang/invoke/VarHandle" ∧ (parseMethodDescriptor (mt 108).1.desc).map (fun d => d.parameters.length) = some 1 := ⟨by decide +kernel, by decide +kernel, by decide +kernel⟩
theorem cl_108 : (mt 108).2.2.1 ≤ 45 := by decide
theorem cz_109 : (mt 109).2.2.2.2 = [] := rfl
theorem cc_109 : Cond.code (mt 109).1 (mt 109).2.1 (mt 109).2.2.1 (mt 109).2.2.2.1 ∈ lw_g := mG 587 (by decide +kernel) rfl
theorem ci_109 : Cond.initialized (mt 109).1.cls ∈ lw_g := w_94
theorem cm_109 : Cond.instanceMethod (mt 109).1 ∈ lw_g := w_585
theorem cs_109 : Cond.selects (mt 109).1.cls (mt 109).1 (mt 109).1 ∈ lw_g := w_586
theorem cd_109 : (mt 109).1.cls ≠ "java/lang/invoke/MethodHandle" ∧ (mt 109).1.cls ≠ "java/lang/invoke/VarHandle" ∧ (parseMethodDescriptor (mt 109).1.desc).map (fun d => d.parameters.length) = some 0 := ⟨by decide +kernel, by decide +kernel, by decide +kernel⟩
theorem cl_109 : (mt 109).2.2.1 ≤ 45 := by decide
theorem cz_110 : (mt 110).2.2.2.2 = [] := rfl
theorem cc_110 : Cond.code (mt 110).1 (mt 110).2.1 (mt 110).2.2.1 (mt 110).2.2.2.1 ∈ lw_g := mG 614 (by decide +kernel) rfl
theorem ci_110 : Cond.initialized (mt 110).1.cls ∈ lw_g := w_94
theorem cm_110 : Cond.instanceMethod (mt 110).1 ∈ lw_g := w_612
theorem cs_110 : Cond.selects (mt 110).1.cls (mt 110).1 (mt 110).1 ∈ lw_g := w_613
theorem cd_110 : (mt 110).1.cls ≠ "java/lang/invoke/MethodHandle" ∧ (mt 110).1.cls ≠ "java/lang/invoke/VarHandle" ∧ (parseMethodDescriptor (mt 110).1.desc).map (fun d => d.parameters.length) = some 0 := ⟨by decide +kernel, by decide +kernel, by decide +kernel⟩
theorem cl_110 : (mt 110).2.2.1 ≤ 45 := by decide
theorem cz_111 : (mt 111).2.2.2.2 = [] := rfl
theorem cc_111 : Cond.code (mt 111).1 (mt 111).2.1 (mt 111).2.2.1 (mt 111).2.2.2.1 ∈ lw_g := mG 800 (by decide +kernel) rfl
theorem ci_111 : Cond.initialized (mt 111).1.cls ∈ lw_g := w_94
theorem cm_111 : Cond.instanceMethod (mt 111).1 ∈ lw_g := w_798
theorem cs_111 : Cond.selects (mt 111).1.cls (mt 111).1 (mt 111).1 ∈ lw_g := w_799
theorem cd_111 : (mt 111).1.cls ≠ "java/lang/invoke/MethodHandle" ∧ (mt 111).1.cls ≠ "java/lang/invoke/VarHandle" ∧ (parseMethodDescriptor (mt 111).1.desc).map (fun d => d.parameters.length) = some 1 := ⟨by decide +kernel, by decide +kernel, by decide +kernel⟩
theorem cl_111 : (mt 111).2.2.1 ≤ 45 := by decide
theorem cz_112 : (mt 112).2.2.2.2 = [] := rfl
theorem cc_112 : Cond.code (mt 112).1 (mt 112).2.1 (mt 112).2.2.1 (mt 112).2.2.2.1 ∈ lw_g := mG 805 (by decide +kernel) rfl
theorem ci_112 : Cond.initialized (mt 112).1.cls ∈ lw_g := w_94
theorem cm_112 : Cond.instanceMethod (mt 112).1 ∈ lw_g := w_803
theorem cs_112 : Cond.selects (mt 112).1.cls (mt 112).1 (mt 112).1 ∈ lw_g := w_804
theorem cd_112 : (mt 112).1.cls ≠ "java/lang/invoke/MethodHandle" ∧ (mt 112).1.cls ≠ "java/lang/invoke/VarHandle" ∧ (parseMethodDescriptor (mt 112).1.desc).map (fun d => d.parameters.length) = some 1 := ⟨by decide +kernel, by decide +kernel, by decide +kernel⟩
theorem cl_112 : (mt 112).2.2.1 ≤ 45 := by decide
theorem cz_113 : (mt 113).2.2.2.2 = [] := rfl
theorem cc_113 : Cond.code (mt 113).1 (mt 113).2.1 (mt 113).2.2.1 (mt 113).2.2.2.1 ∈ lw_g := mG 1067 (by decide +kernel) rfl
theorem ci_113 : Cond.initialized (mt 113).1.cls ∈ lw_g := w_94
theorem cm_113 : Cond.instanceMethod (mt 113).1 ∈ lw_g := w_1065
theorem cs_113 : Cond.selects (mt 113).1.cls (mt 113).1 (mt 113).1 ∈ lw_g := w_1066
theorem cd_113 : (mt 113).1.cls ≠ "java/lang/invoke/MethodHandle" ∧ (mt 113).1.cls ≠ "java/lang/invoke/VarHandle" ∧ (parseMethodDescriptor (mt 113).1.desc).map (fun d => d.parameters.length) = some 2 := ⟨by decide +kernel, by decide +kernel, by decide +kernel⟩
theorem cl_113 : (mt 113).2.2.1 ≤ 45 := by decide
theorem cz_114 : (mt 114).2.2.2.2 = [] := rfl
theorem cc_114 : Cond.code (mt 114).1 (mt 114).2.1 (mt 114).2.2.1 (mt 114).2.2.2.1 ∈ lw_g := mG 1071 (by decide +kernel) rfl
theorem ci_114 : Cond.initialized (mt 114).1.cls ∈ lw_g := w_94
theorem cm_114 : Cond.instanceMethod (mt 114).1 ∈ lw_g := w_1070
theorem cs_114 : Cond.selects (mt 114).1.cls (mt 114).1 (mt 114).1 ∈ lw_g := w_16
theorem cd_114 : (mt 114).1.cls ≠ "java/lang/invoke/MethodHandle" ∧ (mt 114).1.cls ≠ "java/lang/invoke/VarHandle" ∧ (parseMethodDescriptor (mt 114).1.desc).map (fun d => d.parameters.length) = some 0 := ⟨by decide +kernel, by decide +kernel, by decide +kernel⟩
theorem cl_114 : (mt 114).2.2.1 ≤ 45 := by decide
theorem cz_115 : (mt 115).2.2.2.2 = [] := rfl
theorem cc_115 : Cond.code (mt 115).1 (mt 115).2.1 (mt 115).2.2.1 (mt 115).2.2.2.1 ∈ lw_g := mG 1104 (by decide +kernel) rfl
theorem ci_115 : Cond.initialized (mt 115).1.cls ∈ lw_g := w_94
theorem cm_115 : Cond.instanceMethod (mt 115).1 ∈ lw_g := w_1103
theorem cs_115 : Cond.selects (mt 115).1.cls (mt 115).1 (mt 115).1 ∈ lw_g := w_19
theorem cd_115 : (mt 115).1.cls ≠ "java/lang/invoke/MethodHandle" ∧ (mt 115).1.cls ≠ "java/lang/invoke/VarHandle" ∧ (parseMethodDescriptor (mt 115).1.desc).map (fun d => d.parameters.length) = some 2 := ⟨by decide +kernel, by decide +kernel, by decide +kernel⟩
theorem cl_115 : (mt 115).2.2.1 ≤ 45 := by decide
theorem cz_116 : (mt 116).2.2.2.2 = [] := rfl
theorem cc_116 : Cond.code (mt 116).1 (mt 116).2.1 (mt 116).2.2.1 (mt 116).2.2.2.1 ∈ lw_g := mG 1090 (by decide +kernel) rfl
theorem ci_116 : Cond.initialized (mt 116).1.cls ∈ lw_g := w_94
theorem cm_116 : Cond.instanceMethod (mt 116).1 ∈ lw_g := w_1089
theorem cs_116 : Cond.selects (mt 116).1.cls (mt 116).1 (mt 116).1 ∈ lw_g := w_18
theorem cd_116 : (mt 116).1.cls ≠ "java/lang/invoke/MethodHandle" ∧ (mt 116).1.cls ≠ "java/lang/invoke/VarHandle" ∧ (parseMethodDescriptor (mt 116).1.desc).map (fun d => d.parameters.length) = some 1 := ⟨by decide +kernel, by decide +kernel, by decide +kernel⟩
theorem cl_116 : (mt 116).2.2.1 ≤ 45 := by decide
theorem cz_117 : (mt 117).2.2.2.2 = [] := rfl
theorem cc_117 : Cond.code (mt 117).1 (mt 117).2.1 (mt 117).2.2.1 (mt 117).2.2.2.1 ∈ lw_g := mG 1086 (by decide +kernel) rfl
theorem ci_117 : Cond.initialized (mt 117).1.cls ∈ lw_g := w_94
theorem cm_117 : Cond.instanceMethod (mt 117).1 ∈ lw_g := w_1085
theorem cs_117 : Cond.selects (mt 117).1.cls (mt 117).1 (mt 117).1 ∈ lw_g := w_17
theorem cd_117 : (mt 117).1.cls ≠ "java/lang/invoke/MethodHandle" ∧ (mt 117).1.cls ≠ "java/lang/invoke/VarHandle" ∧ (parseMethodDescriptor (mt 117).1.desc).map (fun d => d.parameters.length) = some 1 := ⟨by decide +kernel, by decide +kernel, by decide +kernel⟩
theorem cl_117 : (mt 117).2.2.1 ≤ 45 := by decide
theorem cz_118 : (mt 118).2.2.2.2 = [] := rfl
theorem cc_118 : Cond.code (mt 118).1 (mt 118).2.1 (mt 118).2.2.1 (mt 118).2.2.2.1 ∈ lw_g := mG 157 (by decide +kernel) rfl
theorem ci_118 : Cond.initialized (mt 118).1.cls ∈ lw_g := w_86
theorem cm_118 : Cond.instanceMethod (mt 118).1 ∈ lw_g := w_156
theorem cd_118 : (mt 118).1.cls ≠ "java/lang/invoke/MethodHandle" ∧ (mt 118).1.cls ≠ "java/lang/invoke/VarHandle" ∧ (parseMethodDescriptor (mt 118).1.desc).map (fun d => d.parameters.length) = some 0 := ⟨by decide +kernel, by decide +kernel, by decide +kernel⟩
theorem cl_118 : (mt 118).2.2.1 ≤ 45 := by decide
theorem cz_119 : (mt 119).2.2.2.2 = [] := rfl
theorem cc_119 : Cond.code (mt 119).1 (mt 119).2.1 (mt 119).2.2.1 (mt 119).2.2.2.1 ∈ lw_g := mG 537 (by decide +kernel) rfl
theorem ci_119 : Cond.initialized (mt 119).1.cls ∈ lw_g := w_86
theorem cm_119 : Cond.instanceMethod (mt 119).1 ∈ lw_g := w_535
theorem cs_119 : Cond.selects (mt 119).1.cls (mt 119).1 (mt 119).1 ∈ lw_g := w_536
theorem cd_119 : (mt 119).1.cls ≠ "java/lang/invoke/MethodHandle" ∧ (mt 119).1.cls ≠ "java/lang/invoke/VarHandle" ∧ (parseMethodDescriptor (mt 119).1.desc).map (fun d => d.parameters.length) = some 0 := ⟨by decide +kernel, by decide +kernel, by decide +kernel⟩
theorem cl_119 : (mt 119).2.2.1 ≤ 45 := by decide
theorem cz_120 : (mt 120).2.2.2.2 = [] := rfl
theorem cc_120 : Cond.code (mt 120).1 (mt 120).2.1 (mt 120).2.2.1 (mt 120).2.2.2.1 ∈ lw_g := mG 1280 (by decide +kernel) rfl
theorem ci_120 : Cond.initialized (mt 120).1.cls ∈ lw_g := w_86
theorem cm_120 : Cond.instanceMethod (mt 120).1 ∈ lw_g := w_1278
theorem cs_120 : Cond.selects (mt 120).1.cls (mt 120).1 (mt 120).1 ∈ lw_g := w_1279
theorem cd_120 : (mt 120).1.cls ≠ "java/lang/invoke/MethodHandle" ∧ (mt 120).1.cls ≠ "java/lang/invoke/VarHandle" ∧ (parseMethodDescriptor (mt 120).1.desc).map (fun d => d.parameters.length) = some 0 := ⟨by decide +kernel, by decide +kernel, by decide +kernel⟩
theorem cl_120 : (mt 120).2.2.1 ≤ 45 := by decide
theorem cz_121 : (mt 121).2.2.2.2 = [] := rfl
theorem cc_121 : Cond.code (mt 121).1 (mt 121).2.1 (mt 121).2.2.1 (mt 121).2.2.2.1 ∈ lw_g := mG 745 (by decide +kernel) rfl
theorem ci_121 : Cond.initialized (mt 121).1.cls ∈ lw_g := w_86
theorem cm_121 : Cond.instanceMethod (mt 121).1 ∈ lw_g := w_743
theorem cs_121 : Cond.selects (mt 121).1.cls (mt 121).1 (mt 121).1 ∈ lw_g := w_744
theorem cd_121 : (mt 121).1.cls ≠ "java/lang/invoke/MethodHandle" ∧ (mt 121).1.cls ≠ "java/lang/invoke/VarHandle" ∧ (parseMethodDescriptor (mt 121).1.desc).map (fun d => d.parameters.length) = some 1 := ⟨by decide +kernel, by decide +kernel, by decide +kernel⟩
theorem cl_121 : (mt 121).2.2.1 ≤ 45 := by decide
theorem cz_122 : (mt 122).2.2.2.2 = [] := rfl
theorem cc_122 : Cond.code (mt 122).1 (mt 122).2.1 (mt 122).2.2.1 (mt 122).2.2.2.1 ∈ lw_g := mG 1285 (by decide +kernel) rfl
theorem ci_122 : Cond.initialized (mt 122).1.cls ∈ lw_g := w_86
theorem cm_122 : Cond.instanceMethod (mt 122).1 ∈ lw_g := w_1283
theorem cs_122 : Cond.selects (mt 122).1.cls (mt 122).1 (mt 122).1 ∈ lw_g := w_1284
theorem cd_122 : (mt 122).1.cls ≠ "java/lang/invoke/MethodHandle" ∧ (mt 122).1.cls ≠ "java/lang/invoke/VarHandle" ∧ (parseMethodDescriptor (mt 122).1.desc).map (fun d => d.parameters.length) = some 3 := ⟨by decide +kernel, by decide +kernel, by decide +kernel⟩
theorem cl_122 : (mt 122).2.2.1 ≤ 45 := by decide
theorem cz_123 : (mt 123).2.2.2.2 = [] := rfl
theorem cc_123 : Cond.code (mt 123).1 (mt 123).2.1 (mt 123).2.2.1 (mt 123).2.2.2.1 ∈ lw_g := mG 1298 (by decide +kernel) rfl
theorem ci_123 : Cond.initialized (mt 123).1.cls ∈ lw_g := w_86
theorem cm_123 : Cond.instanceMethod (mt 123).1 ∈ lw_g := w_1296
theorem cs_123 : Cond.selects (mt 123).1.cls (mt 123).1 (mt 123).1 ∈ lw_g := w_1297
theorem cd_123 : (mt 123).1.cls ≠ "java/lang/invoke/MethodHandle" ∧ (mt 123).1.cls ≠ "java/lang/invoke/VarHandle" ∧ (parseMethodDescriptor (mt 123).1.desc).map (fun d => d.parameters.length) = some 1 := ⟨by decide +kernel, by decide +kernel, by decide +kernel⟩
theorem cl_123 : (mt 123).2.2.1 ≤ 45 := by decide
theorem cz_124 : (mt 124).2.2.2.2 = [] := rfl
theorem cc_124 : Cond.code (mt 124).1 (mt 124).2.1 (mt 124).2.2.1 (mt 124).2.2.2.1 ∈ lw_g := mG 1304 (by decide +kernel) rfl
theorem ci_124 : Cond.initialized (mt 124).1.cls ∈ lw_g := w_86
theorem cm_124 : Cond.instanceMethod (mt 124).1 ∈ lw_g := w_1302
theorem cs_124 : Cond.selects (mt 124).1.cls (mt 124).1 (mt 124).1 ∈ lw_g := w_1303
theorem cd_124 : (mt 124).1.cls ≠ "java/lang/invoke/MethodHandle" ∧ (mt 124).1.cls ≠ "java/lang/invoke/VarHandle" ∧ (parseMethodDescriptor (mt 124).1.desc).map (fun d => d.parameters.length) = some 5 := ⟨by decide +kernel, by decide +kernel, by decide +kernel⟩
theorem cl_124 : (mt 124).2.2.1 ≤ 45 := by decide
theorem cz_125 : (mt 125).2.2.2.2 = [] := rfl
theorem cc_125 : Cond.code (mt 125).1 (mt 125).2.1 (mt 125).2.2.1 (mt 125).2.2.2.1 ∈ lw_g := mG 750 (by decide +kernel) rfl
theorem ci_125 : Cond.initialized (mt 125).1.cls ∈ lw_g := w_86
theorem cm_125 : Cond.instanceMethod (mt 125).1 ∈ lw_g := w_748
theorem cs_125 : Cond.selects (mt 125).1.cls (mt 125).1 (mt 125).1 ∈ lw_g := w_749
theorem cd_125 : (mt 125).1.cls ≠ "java/lang/invoke/MethodHandle" ∧ (mt 125).1.cls ≠ "java/lang/invoke/VarHandle" ∧ (parseMethodDescriptor (mt 125).1.desc).map (fun d => d.parameters.length) = some 1 := ⟨by decide +kernel, by decide +kernel, by decide +kernel⟩
theorem cl_125 : (mt 125).2.2.1 ≤ 45 := by decide
theorem cz_126 : (mt 126).2.2.2.2 = [] := rfl
theorem cc_126 : Cond.code (mt 126).1 (mt 126).2.1 (mt 126).2.2.1 (mt 126).2.2.2.1 ∈ lw_g := mG 755 (by decide +kernel) rfl
theorem ci_126 : Cond.initialized (mt 126).1.cls ∈ lw_g := w_86
theorem cm_126 : Cond.instanceMethod (mt 126).1 ∈ lw_g := w_753
theorem cs_126 : Cond.selects (mt 126).1.cls (mt 126).1 (mt 126).1 ∈ lw_g := w_754
theorem cd_126 : (mt 126).1.cls ≠ "java/lang/invoke/MethodHandle" ∧ (mt 126).1.cls ≠ "java/lang/invoke/VarHandle" ∧ (parseMethodDescriptor (mt 126).1.desc).map (fun d => d.parameters.length) = some 1 := ⟨by decide +kernel, by decide +kernel, by decide +kernel⟩
theorem cl_126 : (mt 126).2.2.1 ≤ 45 := by decide
theorem cz_127 : (mt 127).2.2.2.2 = [] := rfl
theorem cc_127 : Cond.code (mt 127).1 (mt 127).2.1 (mt 127).2.2.1 (mt 127).2.2.2.1 ∈ lw_g := mG 1076 (by decide +kernel) rfl
theorem ci_127 : Cond.initialized (mt 127).1.cls ∈ lw_g := w_86
theorem cm_127 : Cond.instanceMethod (mt 127).1 ∈ lw_g := w_1074
theorem cs_127 : Cond.selects (mt 127).1.cls (mt 127).1 (mt 127).1 ∈ lw_g := w_1075
theorem cd_127 : (mt 127).1.cls ≠ "java/lang/invoke/MethodHandle" ∧ (mt 127).1.cls ≠ "java/lang/invoke/VarHandle" ∧ (parseMethodDescriptor (mt 127).1.desc).map (fun d => d.parameters.length) = some 1 := ⟨by decide +kernel, by decide +kernel, by decide +kernel⟩
theorem cl_127 : (mt 127).2.2.1 ≤ 45 := by decide
theorem cz_128 : (mt 128).2.2.2.2 = [] := rfl
theorem cc_128 : Cond.code (mt 128).1 (mt 128).2.1 (mt 128).2.2.1 (mt 128).2.2.2.1 ∈ lw_g := mG 759 (by decide +kernel) rfl
theorem ci_128 : Cond.initialized (mt 128).1.cls ∈ lw_g := w_86
theorem cm_128 : Cond.instanceMethod (mt 128).1 ∈ lw_g := w_757
theorem cs_128 : Cond.selects (mt 128).1.cls (mt 128).1 (mt 128).1 ∈ lw_g := w_758
theorem cd_128 : (mt 128).1.cls ≠ "java/lang/invoke/MethodHandle" ∧ (mt 128).1.cls ≠ "java/lang/invoke/VarHandle" ∧ (parseMethodDescriptor (mt 128).1.desc).map (fun d => d.parameters.length) = some 1 := ⟨by decide +kernel, by decide +kernel, by decide +kernel⟩
theorem cl_128 : (mt 128).2.2.1 ≤ 45 := by decide
theorem cz_129 : (mt 129).2.2.2.2 = [] := rfl
theorem cc_129 : Cond.code (mt 129).1 (mt 129).2.1 (mt 129).2.2.1 (mt 129).2.2.2.1 ∈ lw_g := mG 719 (by decide +kernel) rfl
theorem ci_129 : Cond.initialized (mt 129).1.cls ∈ lw_g := w_86
theorem cm_129 : Cond.instanceMethod (mt 129).1 ∈ lw_g := w_717
theorem cs_129 : Cond.selects (mt 129).1.cls (mt 129).1 (mt 129).1 ∈ lw_g := w_718
theorem cd_129 : (mt 129).1.cls ≠ "java/lang/invoke/MethodHandle" ∧ (mt 129).1.cls ≠ "java/lang/invoke/VarHandle" ∧ (parseMethodDescriptor (mt 129).1.desc).map (fun d => d.parameters.length) = some 1 := ⟨by decide +kernel, by decide +kernel, by decide +kernel⟩
theorem cl_129 : (mt 129).2.2.1 ≤ 45 := by decide
theorem cz_130 : (mt 130).2.2.2.2 = [] := rfl
theorem cc_130 : Cond.code (mt 130).1 (mt 130).2.1 (mt 130).2.2.1 (mt 130).2.2.2.1 ∈ lw_g := mG 1113 (by decide +kernel) rfl
theorem ci_130 : Cond.initialized (mt 130).1.cls ∈ lw_g := w_86
theorem cm_130 : Cond.instanceMethod (mt 130).1 ∈ lw_g := w_1112
theorem cs_130 : Cond.selects (mt 130).1.cls (mt 130).1 (mt 130).1 ∈ lw_g := w_20
theorem cd_130 : (mt 130).1.cls ≠ "java/lang/invoke/MethodHandle" ∧ (mt 130).1.cls ≠ "java/lang/invoke/VarHandle" ∧ (parseMethodDescriptor (mt 130).1.desc).map (fun d => d.parameters.length) = some 2 := ⟨by decide +kernel, by decide +kernel, by decide +kernel⟩
theorem cl_130 : (mt 130).2.2.1 ≤ 45 := by decide
theorem cz_131 : (mt 131).2.2.2.2 = [] := rfl
theorem cc_131 : Cond.code (mt 131).1 (mt 131).2.1 (mt 131).2.2.1 (mt 131).2.2.2.1 ∈ lw_g := mG 1121 (by decide +kernel) rfl
theorem ci_131 : Cond.initialized (mt 131).1.cls ∈ lw_g := w_86
theorem cm_131 : Cond.instanceMethod (mt 131).1 ∈ lw_g := w_1119
theorem cs_131 : Cond.selects (mt 131).1.cls (mt 131).1 (mt 131).1 ∈ lw_g := w_1120
theorem cd_131 : (mt 131).1.cls ≠ "java/lang/invoke/MethodHandle" ∧ (mt 131).1.cls ≠ "java/lang/invoke/VarHandle" ∧ (parseMethodDescriptor (mt 131).1.desc).map (fun d => d.parameters.length) = some 2 := ⟨by decide +kernel, by decide +kernel, by decide +kernel⟩
theorem cl_131 : (mt 131).2.2.1 ≤ 45 := by decide
theorem cz_132 : (mt 132).2.2.2.2 = [] := rfl
theorem cc_132 : Cond.code (mt 132).1 (mt 132).2.1 (mt 132).2.2.1 (mt 132).2.2.2.1 ∈ lw_g := mG 1117 (by decide +kernel) rfl
theorem ci_132 : Cond.initialized (mt 132).1.cls ∈ lw_g := w_86
theorem cm_132 : Cond.instanceMethod (mt 132).1 ∈ lw_g := w_1115
theorem cs_132 : Cond.selects (mt 132).1.cls (mt 132).1 (mt 132).1 ∈ lw_g := w_1116
theorem cd_132 : (mt 132).1.cls ≠ "java/lang/invoke/MethodHandle" ∧ (mt 132).1.cls ≠ "java/lang/invoke/VarHandle" ∧ (parseMethodDescriptor (mt 132).1.desc).map (fun d => d.parameters.length) = some 2 := ⟨by decide +kernel, by decide +kernel, by decide +kernel⟩
theorem cl_132 : (mt 132).2.2.1 ≤ 45 := by decide
theorem cz_133 : (mt 133).2.2.2.2 = [] := rfl
theorem cc_133 : Cond.code (mt 133).1 (mt 133).2.1 (mt 133).2.2.1 (mt 133).2.2.2.1 ∈ lw_g := mG 1141 (by decide +kernel) rfl
theorem ci_133 : Cond.initialized (mt 133).1.cls ∈ lw_g := w_86
theorem cm_133 : Cond.instanceMethod (mt 133).1 ∈ lw_g := w_1139
theorem cs_133 : Cond.selects (mt 133).1.cls (mt 133).1 (mt 133).1 ∈ lw_g := w_1140
theorem cd_133 : (mt 133).1.cls ≠ "java/lang/invoke/MethodHandle" ∧ (mt 133).1.cls ≠ "java/lang/invoke/VarHandle" ∧ (parseMethodDescriptor (mt 133).1.desc).map (fun d => d.parameters.length) = some 2 := ⟨by decide +kernel, by decide +kernel, by decide +kernel⟩
theorem cl_133 : (mt 133).2.2.1 ≤ 45 := by decide
theorem cz_134 : (mt 134).2.2.2.2 = [] := rfl
theorem cc_134 : Cond.code (mt 134).1 (mt 134).2.1 (mt 134).2.2.1 (mt 134).2.2.2.1 ∈ lw_g := mG 1109 (by decide +kernel) rfl
theorem ci_134 : Cond.initialized (mt 134).1.cls ∈ lw_g := w_86
theorem cm_134 : Cond.instanceMethod (mt 134).1 ∈ lw_g := w_1107
theorem cs_134 : Cond.selects (mt 134).1.cls (mt 134).1 (mt 134).1 ∈ lw_g := w_1108
theorem cd_134 : (mt 134).1.cls ≠ "java/lang/invoke/MethodHandle" ∧ (mt 134).1.cls ≠ "java/lang/invoke/VarHandle" ∧ (parseMethodDescriptor (mt 134).1.desc).map (fun d => d.parameters.length) = some 2 := ⟨by decide +kernel, by decide +kernel, by decide +kernel⟩
theorem cl_134 : (mt 134).2.2.1 ≤ 45 := by decide
theorem cz_135 : (mt 135).2.2.2.2 = [] := rfl
theorem cc_135 : Cond.code (mt 135).1 (mt 135).2.1 (mt 135).2.2.1 (mt 135).2.2.2.1 ∈ lw_g := mG 1242 (by decide +kernel) rfl
theorem ci_135 : Cond.initialized (mt 135).1.cls ∈ lw_g := w_86
theorem cm_135 : Cond.instanceMethod (mt 135).1 ∈ lw_g := w_1240
theorem cs_135 : Cond.selects (mt 135).1.cls (mt 135).1 (mt 135).1 ∈ lw_g := w_1241
theorem cd_135 : (mt 135).1.cls ≠ "java/lang/invoke/MethodHandle" ∧ (mt 135).1.cls ≠ "java/lang/invoke/VarHandle" ∧ (parseMethodDescriptor (mt 135).1.desc).map (fun d => d.parameters.length) = some 2 := ⟨by decide +kernel, by decide +kernel, by decide +kernel⟩
theorem cl_135 : (mt 135).2.2.1 ≤ 45 := by decide
theorem cz_136 : (mt 136).2.2.2.2 = [] := rfl
theorem cc_136 : Cond.code (mt 136).1 (mt 136).2.1 (mt 136).2.2.1 (mt 136).2.2.2.1 ∈ lw_g := mG 1236 (by decide +kernel) rfl
theorem ci_136 : Cond.initialized (mt 136).1.cls ∈ lw_g := w_86
theorem cm_136 : Cond.instanceMethod (mt 136).1 ∈ lw_g := w_1234
theorem cs_136 : Cond.selects (mt 136).1.cls (mt 136).1 (mt 136).1 ∈ lw_g := w_1235
theorem cd_136 : (mt 136).1.cls ≠ "java/lang/invoke/MethodHandle" ∧ (mt 136).1.cls ≠ "java/lang/invoke/VarHandle" ∧ (parseMethodDescriptor (mt 136).1.desc).map (fun d => d.parameters.length) = some 2 := ⟨by decide +kernel, by decide +kernel, by decide +kernel⟩
theorem cl_136 : (mt 136).2.2.1 ≤ 45 := by decide
theorem cz_137 : (mt 137).2.2.2.2 = [] := rfl
theorem cc_137 : Cond.code (mt 137).1 (mt 137).2.1 (mt 137).2.2.1 (mt 137).2.2.2.1 ∈ lw_g := mG 320 (by decide +kernel) rfl
theorem ci_137 : Cond.initialized (mt 137).1.cls ∈ lw_g := w_93
theorem cm_137 : Cond.instanceMethod (mt 137).1 ∈ lw_g := w_319
theorem cd_137 : (mt 137).1.cls ≠ "java/lang/invoke/MethodHandle" ∧ (mt 137).1.cls ≠ "java/lang/invoke/VarHandle" ∧ (parseMethodDescriptor (mt 137).1.desc).map (fun d => d.parameters.length) = some 2 := ⟨by decide +kernel, by decide +kernel, by decide +kernel⟩
theorem cl_137 : (mt 137).2.2.1 ≤ 45 := by decide
theorem cz_138 : (mt 138).2.2.2.2 = [] := rfl
theorem cc_138 : Cond.code (mt 138).1 (mt 138).2.1 (mt 138).2.2.1 (mt 138).2.2.2.1 ∈ lw_g := mG 325 (by decide +kernel) rfl
theorem ci_138 : Cond.initialized (mt 138).1.cls ∈ lw_g := w_93
theorem cm_138 : Cond.instanceMethod (mt 138).1 ∈ lw_g := w_324
theorem cs_138 : Cond.selects (mt 138).1.cls (mt 138).1 (mt 138).1 ∈ lw_g := w_0
theorem cd_138 : (mt 138).1.cls ≠ "java/lang/invoke/MethodHandle" ∧ (mt 138).1.cls ≠ "java/lang/invoke/VarHandle" ∧ (parseMethodDescriptor (mt 138).1.desc).map (fun d => d.parameters.length) = some 0 := ⟨by decide +kernel, by decide +kernel, by decide +kernel⟩
theorem cl_138 : (mt 138).2.2.1 ≤ 45 := by decide
theorem cz_139 : (mt 139).2.2.2.2 = [] := rfl
theorem cc_139 : Cond.code (mt 139).1 (mt 139).2.1 (mt 139).2.2.1 (mt 139).2.2.2.1 ∈ lw_g := mG 1020 (by decide +kernel) rfl
theorem ci_139 : Cond.initialized (mt 139).1.cls ∈ lw_g := w_93
theorem cm_139 : Cond.instanceMethod (mt 139).1 ∈ lw_g := w_1018
theorem cs_139 : Cond.selects (mt 139).1.cls (mt 139).1 (mt 139).1 ∈ lw_g := w_1019
theorem cd_139 : (mt 139).1.cls ≠ "java/lang/invoke/MethodHandle" ∧ (mt 139).1.cls ≠ "java/lang/invoke/VarHandle" ∧ (parseMethodDescriptor (mt 139).1.desc).map (fun d => d.parameters.length) = some 0 := ⟨by decide +kernel, by decide +kernel, by decide +kernel⟩
theorem cl_139 : (mt 139).2.2.1 ≤ 45 := by decide
theorem cz_140 : (mt 140).2.2.2.2 = [] := rfl
theorem cc_140 : Cond.code (mt 140).1 (mt 140).2.1 (mt 140).2.2.1 (mt 140).2.2.2.1 ∈ lw_g := mG 1029 (by decide +kernel) rfl
theorem ci_140 : Cond.initialized (mt 140).1.cls ∈ lw_g := w_93
theorem cm_140 : Cond.instanceMethod (mt 140).1 ∈ lw_g := w_1028
theorem cs_140 : Cond.selects (mt 140).1.cls (mt 140).1 (mt 140).1 ∈ lw_g := w_14
theorem cd_140 : (mt 140).1.cls ≠ "java/lang/invoke/MethodHandle" ∧ (mt 140).1.cls ≠ "java/lang/invoke/VarHandle" ∧ (parseMethodDescriptor (mt 140).1.desc).map (fun d => d.parameters.length) = some 2 := ⟨by decide +kernel, by decide +kernel, by decide +kernel⟩
theorem cl_140 : (mt 140).2.2.1 ≤ 45 := by decide
theorem cz_141 : (mt 141).2.2.2.2 = [] := rfl
theorem cc_141 : Cond.code (mt 141).1 (mt 141).2.1 (mt 141).2.2.1 (mt 141).2.2.2.1 ∈ lw_g := mG 1051 (by decide +kernel) rfl
theorem ci_141 : Cond.initialized (mt 141).1.cls ∈ lw_g := w_93
theorem cm_141 : Cond.instanceMethod (mt 141).1 ∈ lw_g := w_1050
theorem cs_141 : Cond.selects (mt 141).1.cls (mt 141).1 (mt 141).1 ∈ lw_g := w_15
theorem cd_141 : (mt 141).1.cls ≠ "java/lang/invoke/MethodHandle" ∧ (mt 141).1.cls ≠ "java/lang/invoke/VarHandle" ∧ (parseMethodDescriptor (mt 141).1.desc).map (fun d => d.parameters.length) = some 3 := ⟨by decide +kernel, by decide +kernel, by decide +kernel⟩
theorem cl_141 : (mt 141).2.2.1 ≤ 45 := by decide
theorem cz_142 : (mt 142).2.2.2.2 = [] := rfl
theorem cc_142 : Cond.code (mt 142).1 (mt 142).2.1 (mt 142).2.2.1 (mt 142).2.2.2.1 ∈ lw_g := mG 786 (by decide +kernel) rfl
theorem ci_142 : Cond.initialized (mt 142).1.cls ∈ lw_g := w_93
theorem cm_142 : Cond.instanceMethod (mt 142).1 ∈ lw_g := w_784
theorem cs_142 : Cond.selects (mt 142).1.cls (mt 142).1 (mt 142).1 ∈ lw_g := w_785
theorem cd_142 : (mt 142).1.cls ≠ "java/lang/invoke/MethodHandle" ∧ (mt 142).1.cls ≠ "java/lang/invoke/VarHandle" ∧ (parseMethodDescriptor (mt 142).1.desc).map (fun d => d.parameters.length) = some 1 := ⟨by decide +kernel, by decide +kernel, by decide +kernel⟩
theorem cl_142 : (mt 142).2.2.1 ≤ 45 := by decide
theorem cz_143 : (mt 143).2.2.2.2 = [] := rfl
theorem cc_143 : Cond.code (mt 143).1 (mt 143).2.1 (mt 143).2.2.1 (mt 143).2.2.2.1 ∈ lw_g := mG 791 (by decide +kernel) rfl
theorem ci_143 : Cond.initialized (mt 143).1.cls ∈ lw_g := w_93
theorem cm_143 : Cond.instanceMethod (mt 143).1 ∈ lw_g := w_789
theorem cs_143 : Cond.selects (mt 143).1.cls (mt 143).1 (mt 143).1 ∈ lw_g := w_790
theorem cd_143 : (mt 143).1.cls ≠ "java/lang/invoke/MethodHandle" ∧ (mt 143).1.cls ≠ "java/lang/invoke/VarHandle" ∧ (parseMethodDescriptor (mt 143).1.desc).map (fun d => d.parameters.length) = some 1 := ⟨by decide +kernel, by decide +kernel, by decide +kernel⟩
theorem cl_143 : (mt 143).2.2.1 ≤ 45 := by decide
theorem cz_144 : (mt 144).2.2.2.2 = [] := rfl
theorem cc_144 : Cond.code (mt 144).1 (mt 144).2.1 (mt 144).2.2.1 (mt 144).2.2.2.1 ∈ lw_g := mG 1095 (by decide +kernel) rfl
theorem ci_144 : Cond.initialized (mt 144).1.cls ∈ lw_g := w_93
theorem cm_144 : Cond.instanceMethod (mt 144).1 ∈ lw_g := w_1093
theorem cs_144 : Cond.selects (mt 144).1.cls (mt 144).1 (mt 144).1 ∈ lw_g := w_1094
theorem cd_144 : (mt 144).1.cls ≠ "java/lang/invoke/MethodHandle" ∧ (mt 144).1.cls ≠ "java/lang/invoke/VarHandle" ∧ (parseMethodDescriptor (mt 144).1.desc).map (fun d => d.parameters.length) = some 1 := ⟨by decide +kernel, by decide +kernel, by decide +kernel⟩
theorem cl_144 : (mt 144).2.2.1 ≤ 45 := by decide
theorem cz_145 : (mt 145).2.2.2.2 = [] := rfl
theorem cc_145 : Cond.code (mt 145).1 (mt 145).2.1 (mt 145).2.2.1 (mt 145).2.2.2.1 ∈ lw_g := mG 1182 (by decide +kernel) rfl
theorem ci_145 : Cond.initialized (mt 145).1.cls ∈ lw_g := w_93
theorem cm_145 : Cond.instanceMethod (mt 145).1 ∈ lw_g := w_1180
theorem cs_145 : Cond.selects (mt 145).1.cls (mt 145).1 (mt 145).1 ∈ lw_g := w_1181
theorem cd_145 : (mt 145).1.cls ≠ "java/lang/invoke/MethodHandle" ∧ (mt 145).1.cls ≠ "java/lang/invoke/VarHandle" ∧ (parseMethodDescriptor (mt 145).1.desc).map (fun d => d.parameters.length) = some 1 := ⟨by decide +kernel, by decide +kernel, by decide +kernel⟩
theorem cl_145 : (mt 145).2.2.1 ≤ 45 := by decide
theorem cz_146 : (mt 146).2.2.2.2 = [] := rfl
theorem cc_146 : Cond.code (mt 146).1 (mt 146).2.1 (mt 146).2.2.1 (mt 146).2.2.2.1 ∈ lw_g := mG 1099 (by decide +kernel) rfl
theorem ci_146 : Cond.initialized (mt 146).1.cls ∈ lw_g := w_93
theorem cm_146 : Cond.instanceMethod (mt 146).1 ∈ lw_g := w_1097
theorem cs_146 : Cond.selects (mt 146).1.cls (mt 146).1 (mt 146).1 ∈ lw_g := w_1098
theorem cd_146 : (mt 146).1.cls ≠ "java/lang/invoke/MethodHandle" ∧ (mt 146).1.cls ≠ "java/lang/invoke/VarHandle" ∧ (parseMethodDescriptor (mt 146).1.desc).map (fun d => d.parameters.length) = some 1 := ⟨by decide +kernel, by decide +kernel, by decide +kernel⟩
theorem cl_146 : (mt 146).2.2.1 ≤ 45 := by decide
theorem cz_147 : (mt 147).2.2.2.2 = [] := rfl
theorem cc_147 : Cond.code (mt 147).1 (mt 147).2.1 (mt 147).2.2.1 (mt 147).2.2.2.1 ∈ lw_g := mG 1173 (by decide +kernel) rfl
theorem ci_147 : Cond.initialized (mt 147).1.cls ∈ lw_g := w_93
theorem cm_147 : Cond.instanceMethod (mt 147).1 ∈ lw_g := w_1171
theorem cs_147 : Cond.selects (mt 147).1.cls (mt 147).1 (mt 147).1 ∈ lw_g := w_1172
theorem cd_147 : (mt 147).1.cls ≠ "java/lang/invoke/MethodHandle" ∧ (mt 147).1.cls ≠ "java/lang/invoke/VarHandle" ∧ (parseMethodDescriptor (mt 147).1.desc).map (fun d => d.parameters.length) = some 1 := ⟨by decide +kernel, by decide +kernel, by decide +kernel⟩
theorem cl_147 : (mt 147).2.2.1 ≤ 45 := by decide
theorem cz_148 : (mt 148).2.2.2.2 = [] := rfl
theorem cc_148 : Cond.code (mt 148).1 (mt 148).2.1 (mt 148).2.2.1 (mt 148).2.2.2.1 ∈ lw_g := mG 1169 (by decide +kernel) rfl
theorem ci_148 : Cond.initialized (mt 148).1.cls ∈ lw_g := w_93
theorem cm_148 : Cond.instanceMethod (mt 148).1 ∈ lw_g := w_1167
theorem cs_148 : Cond.selects (mt 148).1.cls (mt 148).1 (mt 148).1 ∈ lw_g := w_1168
theorem cd_148 : (mt 148).1.cls ≠ "java/lang/invoke/MethodHandle" ∧ (mt 148).1.cls ≠ "java/lang/invoke/VarHandle" ∧ (parseMethodDescriptor (mt 148).1.desc).map (fun d => d.parameters.length) = some 1 := ⟨by decide +kernel, by decide +kernel, by decide +kernel⟩
theorem cl_148 : (mt 148).2.2.1 ≤ 45 := by decide
theorem cz_149 : (mt 149).2.2.2.2 = [] := rfl
theorem cc_149 : Cond.code (mt 149).1 (mt 149).2.1 (mt 149).2.2.1 (mt 149).2.2.2.1 ∈ lw_g := mG 1211 (by decide +kernel) rfl
theorem ci_149 : Cond.initialized (mt 149).1.cls ∈ lw_g := w_93
theorem cm_149 : Cond.instanceMethod (mt 149).1 ∈ lw_g := w_1209
theorem cs_149 : Cond.selects (mt 149).1.cls (mt 149).1 (mt 149).1 ∈ lw_g := w_1210
theorem cd_149 : (mt 149).1.cls ≠ "java/lang/invoke/MethodHandle" ∧ (mt 149).1.cls ≠ "java/lang/invoke/VarHandle" ∧ (parseMethodDescriptor (mt 149).1.desc).map (fun d => d.parameters.length) = some 1 := ⟨by decide +kernel, by decide +kernel, by decide +kernel⟩
theorem cl_149 : (mt 149).2.2.1 ≤ 45 := by decide
theorem cz_150 : (mt 150).2.2.2.2 = [] := rfl
theorem cc_150 : Cond.code (mt 150).1 (mt 150).2.1 (mt 150).2.2.1 (mt 150).2.2.2.1 ∈ lw_g := mG 292 (by decide +kernel) rfl
theorem ci_150 : Cond.initialized (mt 150).1.cls ∈ lw_g := w_92
theorem cm_150 : Cond.instanceMethod (mt 150).1 ∈ lw_g := w_291
theorem cd_150 : (mt 150).1.cls ≠ "java/lang/invoke/MethodHandle" ∧ (mt 150).1.cls ≠ "java/lang/invoke/VarHandle" ∧ (parseMethodDescriptor (mt 150).1.desc).map (fun d => d.parameters.length) = some 2 := ⟨by decide +kernel, by decide +kernel, by decide +kernel⟩
theorem cl_150 : (mt 150).2.2.1 ≤ 45 := by decide
theorem cz_151 : (mt 151).2.2.2.2 = [] := rfl
theorem cc_151 : Cond.code (mt 151).1 (mt 151).2.1 (mt 151).2.2.1 (mt 151).2.2.2.1 ∈ lw_g := mG 583 (by decide +kernel) rfl
theorem ci_151 : Cond.initialized (mt 151).1.cls ∈ lw_g := w_92
theorem cm_151 : Cond.instanceMethod (mt 151).1 ∈ lw_g := w_581
theorem cs_151 : Cond.selects (mt 151).1.cls (mt 151).1 (mt 151).1 ∈ lw_g := w_582
theorem cd_151 : (mt 151).1.cls ≠ "java/lang/invoke/MethodHandle" ∧ (mt 151).1.cls ≠ "java/lang/invoke/VarHandle" ∧ (parseMethodDescriptor (mt 151).1.desc).map (fun d => d.parameters.length) = some 0 := ⟨by decide +kernel, by decide +kernel, by decide +kernel⟩
theorem cl_151 : (mt 151).2.2.1 ≤ 45 := by decide
theorem cz_152 : (mt 152).2.2.2.2 = [] := rfl
theorem cc_152 : Cond.code (mt 152).1 (mt 152).2.1 (mt 152).2.2.1 (mt 152).2.2.2.1 ∈ lw_g := mG 1025 (by decide +kernel) rfl
theorem ci_152 : Cond.initialized (mt 152).1.cls ∈ lw_g := w_92
theorem cm_152 : Cond.instanceMethod (mt 152).1 ∈ lw_g := w_1023
theorem cs_152 : Cond.selects (mt 152).1.cls (mt 152).1 (mt 152).1 ∈ lw_g := w_1024
theorem cd_152 : (mt 152).1.cls ≠ "java/lang/invoke/MethodHandle" ∧ (mt 152).1.cls ≠ "java/lang/invoke/VarHandle" ∧ (parseMethodDescriptor (mt 152).1.desc).map (fun d => d.parameters.length) = some 1 := ⟨by decide +kernel, by decide +kernel, by decide +kernel⟩
theorem cl_152 : (mt 152).2.2.1 ≤ 45 := by decide
theorem cz_153 : (mt 153).2.2.2.2 = [] := rfl
theorem cc_153 : Cond.code (mt 153).1 (mt 153).2.1 (mt 153).2.2.1 (mt 153).2.2.2.1 ∈ lw_g := mG 732 (by decide +kernel) rfl
theorem ci_153 : Cond.initialized (mt 153).1.cls ∈ lw_g := w_92
theorem cm_153 : Cond.instanceMethod (mt 153).1 ∈ lw_g := w_730
theorem cs_153 : Cond.selects (mt 153).1.cls (mt 153).1 (mt 153).1 ∈ lw_g := w_731
theorem cd_153 : (mt 153).1.cls ≠ "java/lang/invoke/MethodHandle" ∧ (mt 153).1.cls ≠ "java/lang/invoke/VarHandle" ∧ (parseMethodDescriptor (mt 153).1.desc).map (fun d => d.parameters.length) = some 1 := ⟨by decide +kernel, by decide +kernel, by decide +kernel⟩
theorem cl_153 : (mt 153).2.2.1 ≤ 45 := by decide
theorem cz_154 : (mt 154).2.2.2.2 = [] := rfl
theorem cc_154 : Cond.code (mt 154).1 (mt 154).2.1 (mt 154).2.2.1 (mt 154).2.2.2.1 ∈ lw_g := mG 1081 (by decide +kernel) rfl
theorem ci_154 : Cond.initialized (mt 154).1.cls ∈ lw_g := w_92
theorem cm_154 : Cond.instanceMethod (mt 154).1 ∈ lw_g := w_1079
theorem cs_154 : Cond.selects (mt 154).1.cls (mt 154).1 (mt 154).1 ∈ lw_g := w_1080
theorem cd_154 : (mt 154).1.cls ≠ "java/lang/invoke/MethodHandle" ∧ (mt 154).1.cls ≠ "java/lang/invoke/VarHandle" ∧ (parseMethodDescriptor (mt 154).1.desc).map (fun d => d.parameters.length) = some 1 := ⟨by decide +kernel, by decide +kernel, by decide +kernel⟩
theorem cl_154 : (mt 154).2.2.1 ≤ 45 := by decide
theorem cz_155 : (mt 155).2.2.2.2 = [] := rfl
theorem cc_155 : Cond.code (mt 155).1 (mt 155).2.1 (mt 155).2.2.1 (mt 155).2.2.2.1 ∈ lw_g := mG 972 (by decide +kernel) rfl
theorem ci_155 : Cond.initialized (mt 155).1.cls ∈ lw_g := w_92
theorem cm_155 : Cond.instanceMethod (mt 155).1 ∈ lw_g := w_970
theorem cs_155 : Cond.selects (mt 155).1.cls (mt 155).1 (mt 155).1 ∈ lw_g := w_971
theorem cd_155 : (mt 155).1.cls ≠ "java/lang/invoke/MethodHandle" ∧ (mt 155).1.cls ≠ "java/lang/invoke/VarHandle" ∧ (parseMethodDescriptor (mt 155).1.desc).map (fun d => d.parameters.length) = some 2 := ⟨by decide +kernel, by decide +kernel, by decide +kernel⟩
theorem cl_155 : (mt 155).2.2.1 ≤ 45 := by decide
theorem cz_156 : (mt 156).2.2.2.2 = [] := rfl
theorem cc_156 : Cond.code (mt 156).1 (mt 156).2.1 (mt 156).2.2.1 (mt 156).2.2.2.1 ∈ lw_g := mG 985 (by decide +kernel) rfl
theorem ci_156 : Cond.initialized (mt 156).1.cls ∈ lw_g := w_92
theorem cm_156 : Cond.instanceMethod (mt 156).1 ∈ lw_g := w_984
theorem cs_156 : Cond.selects (mt 156).1.cls (mt 156).1 (mt 156).1 ∈ lw_g := w_10
theorem cd_156 : (mt 156).1.cls ≠ "java/lang/invoke/MethodHandle" ∧ (mt 156).1.cls ≠ "java/lang/invoke/VarHandle" ∧ (parseMethodDescriptor (mt 156).1.desc).map (fun d => d.parameters.length) = some 1 := ⟨by decide +kernel, by decide +kernel, by decide +kernel⟩
theorem cl_156 : (mt 156).2.2.1 ≤ 45 := by decide
theorem cz_157 : (mt 157).2.2.2.2 = [] := rfl
theorem cc_157 : Cond.code (mt 157).1 (mt 157).2.1 (mt 157).2.2.1 (mt 157).2.2.2.1 ∈ lw_g := mG 1003 (by decide +kernel) rfl
theorem ci_157 : Cond.initialized (mt 157).1.cls ∈ lw_g := w_92
theorem cm_157 : Cond.instanceMethod (mt 157).1 ∈ lw_g := w_1002
theorem cs_157 : Cond.selects (mt 157).1.cls (mt 157).1 (mt 157).1 ∈ lw_g := w_12
theorem cd_157 : (mt 157).1.cls ≠ "java/lang/invoke/MethodHandle" ∧ (mt 157).1.cls ≠ "java/lang/invoke/VarHandle" ∧ (parseMethodDescriptor (mt 157).1.desc).map (fun d => d.parameters.length) = some 2 := ⟨by decide +kernel, by decide +kernel, by decide +kernel⟩
theorem cl_157 : (mt 157).2.2.1 ≤ 45 := by decide
theorem cz_158 : (mt 158).2.2.2.2 = [] := rfl
theorem cc_158 : Cond.code (mt 158).1 (mt 158).2.1 (mt 158).2.2.1 (mt 158).2.2.2.1 ∈ lw_g := mG 1012 (by decide +kernel) rfl
theorem ci_158 : Cond.initialized (mt 158).1.cls ∈ lw_g := w_92
theorem cm_158 : Cond.instanceMethod (mt 158).1 ∈ lw_g := w_1011
theorem cs_158 : Cond.selects (mt 158).1.cls (mt 158).1 (mt 158).1 ∈ lw_g := w_13
theorem cd_158 : (mt 158).1.cls ≠ "java/lang/invoke/MethodHandle" ∧ (mt 158).1.cls ≠ "java/lang/invoke/VarHandle" ∧ (parseMethodDescriptor (mt 158).1.desc).map (fun d => d.parameters.length) = some 1 := ⟨by decide +kernel, by decide +kernel, by decide +kernel⟩
theorem cl_158 : (mt 158).2.2.1 ≤ 45 := by decide
theorem cz_159 : (mt 159).2.2.2.2 = [] := rfl
theorem cc_159 : Cond.code (mt 159).1 (mt 159).2.1 (mt 159).2.2.1 (mt 159).2.2.2.1 ∈ lw_g := mG 990 (by decide +kernel) rfl
theorem ci_159 : Cond.initialized (mt 159).1.cls ∈ lw_g := w_92
theorem cm_159 : Cond.instanceMethod (mt 159).1 ∈ lw_g := w_989
theorem cs_159 : Cond.selects (mt 159).1.cls (mt 159).1 (mt 159).1 ∈ lw_g := w_11
theorem cd_159 : (mt 159).1.cls ≠ "java/lang/invoke/MethodHandle" ∧ (mt 159).1.cls ≠ "java/lang/invoke/VarHandle" ∧ (parseMethodDescriptor (mt 159).1.desc).map (fun d => d.parameters.length) = some 1 := ⟨by decide +kernel, by decide +kernel, by decide +kernel⟩
theorem cl_159 : (mt 159).2.2.1 ≤ 45 := by decide
theorem cz_161 : (mt 161).2.2.2.2 = [] := rfl
theorem cc_161 : Cond.code (mt 161).1 (mt 161).2.1 (mt 161).2.2.1 (mt 161).2.2.2.1 ∈ lw_g := mG 1254 (by decide +kernel) rfl
theorem ci_161 : Cond.initialized (mt 161).1.cls ∈ lw_g := w_84
theorem cm_161 : Cond.instanceMethod (mt 161).1 ∈ lw_g := w_1252
theorem cs_161 : Cond.selects (mt 161).1.cls (mt 161).1 (mt 161).1 ∈ lw_g := w_1253
theorem cd_161 : (mt 161).1.cls ≠ "java/lang/invoke/MethodHandle" ∧ (mt 161).1.cls ≠ "java/lang/invoke/VarHandle" ∧ (parseMethodDescriptor (mt 161).1.desc).map (fun d => d.parameters.length) = some 0 := ⟨by decide +kernel, by decide +kernel, by decide +kernel⟩
theorem cl_161 : (mt 161).2.2.1 ≤ 45 := by decide
theorem cz_162 : (mt 162).2.2.2.2 = [] := rfl
theorem cc_162 : Cond.code (mt 162).1 (mt 162).2.1 (mt 162).2.2.1 (mt 162).2.2.2.1 ∈ lw_g := mG 1272 (by decide +kernel) rfl
theorem ci_162 : Cond.initialized (mt 162).1.cls ∈ lw_g := w_84
theorem cm_162 : Cond.instanceMethod (mt 162).1 ∈ lw_g := w_1270
theorem cs_162 : Cond.selects (mt 162).1.cls (mt 162).1 (mt 162).1 ∈ lw_g := w_1271
theorem cd_162 : (mt 162).1.cls ≠ "java/lang/invoke/MethodHandle" ∧ (mt 162).1.cls ≠ "java/lang/invoke/VarHandle" ∧ (parseMethodDescriptor (mt 162).1.desc).map (fun d => d.parameters.length) = some 3 := ⟨by decide +kernel, by decide +kernel, by decide +kernel⟩
theorem cl_162 : (mt 162).2.2.1 ≤ 45 := by decide
theorem cz_163 : (mt 163).2.2.2.2 = [] := rfl
theorem cc_163 : Cond.code (mt 163).1 (mt 163).2.1 (mt 163).2.2.1 (mt 163).2.2.2.1 ∈ lw_g := mG 1293 (by decide +kernel) rfl
theorem ci_163 : Cond.initialized (mt 163).1.cls ∈ lw_g := w_84
theorem cm_163 : Cond.instanceMethod (mt 163).1 ∈ lw_g := w_1291
theorem cs_163 : Cond.selects (mt 163).1.cls (mt 163).1 (mt 163).1 ∈ lw_g := w_1292
theorem cd_163 : (mt 163).1.cls ≠ "java/lang/invoke/MethodHandle" ∧ (mt 163).1.cls ≠ "java/lang/invoke/VarHandle" ∧ (parseMethodDescriptor (mt 163).1.desc).map (fun d => d.parameters.length) = some 2 := ⟨by decide +kernel, by decide +kernel, by decide +kernel⟩
theorem cl_163 : (mt 163).2.2.1 ≤ 45 := by decide
theorem cz_164 : (mt 164).2.2.2.2 = [] := rfl
theorem cc_164 : Cond.code (mt 164).1 (mt 164).2.1 (mt 164).2.2.1 (mt 164).2.2.2.1 ∈ lw_g := mG 1312 (by decide +kernel) rfl
theorem ci_164 : Cond.initialized (mt 164).1.cls ∈ lw_g := w_84
theorem cm_164 : Cond.instanceMethod (mt 164).1 ∈ lw_g := w_1310
theorem cs_164 : Cond.selects (mt 164).1.cls (mt 164).1 (mt 164).1 ∈ lw_g := w_1311
theorem cd_164 : (mt 164).1.cls ≠ "java/lang/invoke/MethodHandle" ∧ (mt 164).1.cls ≠ "java/lang/invoke/VarHandle" ∧ (parseMethodDescriptor (mt 164).1.desc).map (fun d => d.parameters.length) = some 4 := ⟨by decide +kernel, by decide +kernel, by decide +kernel⟩
theorem cl_164 : (mt 164).2.2.1 ≤ 45 := by decide
theorem cz_165 : (mt 165).2.2.2.2 = [] := rfl
theorem cc_165 : Cond.code (mt 165).1 (mt 165).2.1 (mt 165).2.2.1 (mt 165).2.2.2.1 ∈ lw_g := mG 1328 (by decide +kernel) rfl
theorem ci_165 : Cond.initialized (mt 165).1.cls ∈ lw_g := w_84
theorem cm_165 : Cond.instanceMethod (mt 165).1 ∈ lw_g := w_1326
theorem cs_165 : Cond.selects (mt 165).1.cls (mt 165).1 (mt 165).1 ∈ lw_g := w_1327
theorem cd_165 : (mt 165).1.cls ≠ "java/lang/invoke/MethodHandle" ∧ (mt 165).1.cls ≠ "java/lang/invoke/VarHandle" ∧ (parseMethodDescriptor (mt 165).1.desc).map (fun d => d.parameters.length) = some 3 := ⟨by decide +kernel, by decide +kernel, by decide +kernel⟩
theorem cl_165 : (mt 165).2.2.1 ≤ 45 := by decide
theorem cz_166 : (mt 166).2.2.2.2 = [] := rfl
theorem cc_166 : Cond.code (mt 166).1 (mt 166).2.1 (mt 166).2.2.1 (mt 166).2.2.2.1 ∈ lw_g := mG 1335 (by decide +kernel) rfl
theorem ci_166 : Cond.initialized (mt 166).1.cls ∈ lw_g := w_84
theorem cm_166 : Cond.instanceMethod (mt 166).1 ∈ lw_g := w_1333
theorem cs_166 : Cond.selects (mt 166).1.cls (mt 166).1 (mt 166).1 ∈ lw_g := w_1334
theorem cd_166 : (mt 166).1.cls ≠ "java/lang/invoke/MethodHandle" ∧ (mt 166).1.cls ≠ "java/lang/invoke/VarHandle" ∧ (parseMethodDescriptor (mt 166).1.desc).map (fun d => d.parameters.length) = some 4 := ⟨by decide +kernel, by decide +kernel, by decide +kernel⟩
theorem cl_166 : (mt 166).2.2.1 ≤ 45 := by decide
theorem cz_167 : (mt 167).2.2.2.2 = [] := rfl
theorem cc_167 : Cond.code (mt 167).1 (mt 167).2.1 (mt 167).2.2.1 (mt 167).2.2.2.1 ∈ lw_g := mG 1352 (by decide +kernel) rfl
theorem ci_167 : Cond.initialized (mt 167).1.cls ∈ lw_g := w_84
theorem cm_167 : Cond.instanceMethod (mt 167).1 ∈ lw_g := w_1350
theorem cs_167 : Cond.selects (mt 167).1.cls (mt 167).1 (mt 167).1 ∈ lw_g := w_1351
theorem cd_167 : (mt 167).1.cls ≠ "java/lang/invoke/MethodHandle" ∧ (mt 167).1.cls ≠ "java/lang/invoke/VarHandle" ∧ (parseMethodDescriptor (mt 167).1.desc).map (fun d => d.parameters.length) = some 4 := ⟨by decide +kernel, by decide +kernel, by decide +kernel⟩
theorem cl_167 : (mt 167).2.2.1 ≤ 45 := by decide
theorem cz_168 : (mt 168).2.2.2.2 = [] := rfl
theorem cc_168 : Cond.code (mt 168).1 (mt 168).2.1 (mt 168).2.2.1 (mt 168).2.2.2.1 ∈ lw_g := mG 1365 (by decide +kernel) rfl
theorem ci_168 : Cond.initialized (mt 168).1.cls ∈ lw_g := w_84
theorem cm_168 : Cond.instanceMethod (mt 168).1 ∈ lw_g := w_1363
theorem cs_168 : Cond.selects (mt 168).1.cls (mt 168).1 (mt 168).1 ∈ lw_g := w_1364
theorem cd_168 : (mt 168).1.cls ≠ "java/lang/invoke/MethodHandle" ∧ (mt 168).1.cls ≠ "java/lang/invoke/VarHandle" ∧ (parseMethodDescriptor (mt 168).1.desc).map (fun d => d.parameters.length) = some 2 := ⟨by decide +kernel, by decide +kernel, by decide +kernel⟩
theorem cl_168 : (mt 168).2.2.1 ≤ 45 := by decide
theorem cz_170 : (mt 170).2.2.2.2 = [] := rfl
theorem cc_170 : Cond.code (mt 170).1 (mt 170).2.1 (mt 170).2.2.1 (mt 170).2.2.2.1 ∈ lw_g := mG 695 (by decide +kernel) rfl
theorem ci_170 : Cond.initialized (mt 170).1.cls ∈ lw_g := w_84
theorem cm_170 : Cond.instanceMethod (mt 170).1 ∈ lw_g := w_693
theorem cs_170 : Cond.selects (mt 170).1.cls (mt 170).1 (mt 170).1 ∈ lw_g := w_694
theorem cd_170 : (mt 170).1.cls ≠ "java/lang/invoke/MethodHandle" ∧ (mt 170).1.cls ≠ "java/lang/invoke/VarHandle" ∧ (parseMethodDescriptor (mt 170).1.desc).map (fun d => d.parameters.length) = some 2 := ⟨by decide +kernel, by decide +kernel, by decide +kernel⟩
theorem cl_170 : (mt 170).2.2.1 ≤ 45 := by decide
theorem cz_171 : (mt 171).2.2.2.2 = [] := rfl
theorem cc_171 : Cond.code (mt 171).1 (mt 171).2.1 (mt 171).2.2.1 (mt 171).2.2.2.1 ∈ lw_g := mG 1395 (by decide +kernel) rfl
theorem ci_171 : Cond.initialized (mt 171).1.cls ∈ lw_g := w_84
theorem cm_171 : Cond.instanceMethod (mt 171).1 ∈ lw_g := w_1393
theorem cs_171 : Cond.selects (mt 171).1.cls (mt 171).1 (mt 171).1 ∈ lw_g := w_1394
theorem cd_171 : (mt 171).1.cls ≠ "java/lang/invoke/MethodHandle" ∧ (mt 171).1.cls ≠ "java/lang/invoke/VarHandle" ∧ (parseMethodDescriptor (mt 171).1.desc).map (fun d => d.parameters.length) = some 2 := ⟨by decide +kernel, by decide +kernel, by decide +kernel⟩
theorem cl_171 : (mt 171).2.2.1 ≤ 45 := by decide
theorem cz_172 : (mt 172).2.2.2.2 = [] := rfl
theorem cc_172 : Cond.code (mt 172).1 (mt 172).2.1 (mt 172).2.2.1 (mt 172).2.2.2.1 ∈ lw_g := mG 1403 (by decide +kernel) rfl
theorem ci_172 : Cond.initialized (mt 172).1.cls ∈ lw_g := w_84
theorem cm_172 : Cond.instanceMethod (mt 172).1 ∈ lw_g := w_1401
theorem cs_172 : Cond.selects (mt 172).1.cls (mt 172).1 (mt 172).1 ∈ lw_g := w_1402
theorem cd_172 : (mt 172).1.cls ≠ "java/lang/invoke/MethodHandle" ∧ (mt 172).1.cls ≠ "java/lang/invoke/VarHandle" ∧ (parseMethodDescriptor (mt 172).1.desc).map (fun d => d.parameters.length) = some 2 := ⟨by decide +kernel, by decide +kernel, by decide +kernel⟩
theorem cl_172 : (mt 172).2.2.1 ≤ 45 := by decide
theorem cz_173 : (mt 173).2.2.2.2 = [] := rfl
theorem cc_173 : Cond.code (mt 173).1 (mt 173).2.1 (mt 173).2.2.1 (mt 173).2.2.2.1 ∈ lw_g := mG 741 (by decide +kernel) rfl
theorem ci_173 : Cond.initialized (mt 173).1.cls ∈ lw_g := w_84
theorem cm_173 : Cond.instanceMethod (mt 173).1 ∈ lw_g := w_739
theorem cs_173 : Cond.selects (mt 173).1.cls (mt 173).1 (mt 173).1 ∈ lw_g := w_740
theorem cd_173 : (mt 173).1.cls ≠ "java/lang/invoke/MethodHandle" ∧ (mt 173).1.cls ≠ "java/lang/invoke/VarHandle" ∧ (parseMethodDescriptor (mt 173).1.desc).map (fun d => d.parameters.length) = some 2 := ⟨by decide +kernel, by decide +kernel, by decide +kernel⟩
theorem cl_173 : (mt 173).2.2.1 ≤ 45 := by decide
theorem cz_174 : (mt 174).2.2.2.2 = [] := rfl
theorem cc_174 : Cond.code (mt 174).1 (mt 174).2.1 (mt 174).2.2.1 (mt 174).2.2.2.1 ∈ lw_g := mG 778 (by decide +kernel) rfl
theorem ci_174 : Cond.initialized (mt 174).1.cls ∈ lw_g := w_84
theorem cm_174 : Cond.instanceMethod (mt 174).1 ∈ lw_g := w_776
theorem cs_174 : Cond.selects (mt 174).1.cls (mt 174).1 (mt 174).1 ∈ lw_g := w_777
theorem cd_174 : (mt 174).1.cls ≠ "java/lang/invoke/MethodHandle" ∧ (mt 174).1.cls ≠ "java/lang/invoke/VarHandle" ∧ (parseMethodDescriptor (mt 174).1.desc).map (fun d => d.parameters.length) = some 2 := ⟨by decide +kernel, by decide +kernel, by decide +kernel⟩
theorem cl_174 : (mt 174).2.2.1 ≤ 45 := by decide
theorem cz_175 : (mt 175).2.2.2.2 = [] := rfl
theorem cc_175 : Cond.code (mt 175).1 (mt 175).2.1 (mt 175).2.2.1 (mt 175).2.2.2.1 ∈ lw_g := mG 814 (by decide +kernel) rfl
theorem ci_175 : Cond.initialized (mt 175).1.cls ∈ lw_g := w_84
theorem cm_175 : Cond.instanceMethod (mt 175).1 ∈ lw_g := w_812
theorem cs_175 : Cond.selects (mt 175).1.cls (mt 175).1 (mt 175).1 ∈ lw_g := w_813
theorem cd_175 : (mt 175).1.cls ≠ "java/lang/invoke/MethodHandle" ∧ (mt 175).1.cls ≠ "java/lang/invoke/VarHandle" ∧ (parseMethodDescriptor (mt 175).1.desc).map (fun d => d.parameters.length) = some 2 := ⟨by decide +kernel, by decide +kernel, by decide +kernel⟩
theorem cl_175 : (mt 175).2.2.1 ≤ 45 := by decide
theorem cz_176 : (mt 176).2.2.2.2 = [] := rfl
theorem cc_176 : Cond.code (mt 176).1 (mt 176).2.1 (mt 176).2.2.1 (mt 176).2.2.2.1 ∈ lw_g := mG 824 (by decide +kernel) rfl
theorem ci_176 : Cond.initialized (mt 176).1.cls ∈ lw_g := w_84
theorem cm_176 : Cond.instanceMethod (mt 176).1 ∈ lw_g := w_822
theorem cs_176 : Cond.selects (mt 176).1.cls (mt 176).1 (mt 176).1 ∈ lw_g := w_823
theorem cd_176 : (mt 176).1.cls ≠ "java/lang/invoke/MethodHandle" ∧ (mt 176).1.cls ≠ "java/lang/invoke/VarHandle" ∧ (parseMethodDescriptor (mt 176).1.desc).map (fun d => d.parameters.length) = some 1 := ⟨by decide +kernel, by decide +kernel, by decide +kernel⟩
theorem cl_176 : (mt 176).2.2.1 ≤ 45 := by decide
theorem cz_177 : (mt 177).2.2.2.2 = [] := rfl
theorem cc_177 : Cond.code (mt 177).1 (mt 177).2.1 (mt 177).2.2.1 (mt 177).2.2.2.1 ∈ lw_g := mG 1446 (by decide +kernel) rfl
theorem ci_177 : Cond.initialized (mt 177).1.cls ∈ lw_g := w_84
theorem cm_177 : Cond.instanceMethod (mt 177).1 ∈ lw_g := w_1444
theorem cs_177 : Cond.selects (mt 177).1.cls (mt 177).1 (mt 177).1 ∈ lw_g := w_1445
theorem cd_177 : (mt 177).1.cls ≠ "java/lang/invoke/MethodHandle" ∧ (mt 177).1.cls ≠ "java/lang/invoke/VarHandle" ∧ (parseMethodDescriptor (mt 177).1.desc).map (fun d => d.parameters.length) = some 1 := ⟨by decide +kernel, by decide +kernel, by decide +kernel⟩
theorem cl_177 : (mt 177).2.2.1 ≤ 45 := by decide
theorem cz_178 : (mt 178).2.2.2.2 = [] := rfl
theorem cc_178 : Cond.code (mt 178).1 (mt 178).2.1 (mt 178).2.2.1 (mt 178).2.2.2.1 ∈ lw_g := mG 1469 (by decide +kernel) rfl
theorem ci_178 : Cond.initialized (mt 178).1.cls ∈ lw_g := w_84
theorem cm_178 : Cond.instanceMethod (mt 178).1 ∈ lw_g := w_1467
theorem cs_178 : Cond.selects (mt 178).1.cls (mt 178).1 (mt 178).1 ∈ lw_g := w_1468
theorem cd_178 : (mt 178).1.cls ≠ "java/lang/invoke/MethodHandle" ∧ (mt 178).1.cls ≠ "java/lang/invoke/VarHandle" ∧ (parseMethodDescriptor (mt 178).1.desc).map (fun d => d.parameters.length) = some 2 := ⟨by decide +kernel, by decide +kernel, by decide +kernel⟩
theorem cl_178 : (mt 178).2.2.1 ≤ 45 := by decide
theorem cz_179 : (mt 179).2.2.2.2 = [] := rfl
theorem cc_179 : Cond.code (mt 179).1 (mt 179).2.1 (mt 179).2.2.1 (mt 179).2.2.2.1 ∈ lw_g := mG 1498 (by decide +kernel) rfl
theorem ci_179 : Cond.initialized (mt 179).1.cls ∈ lw_g := w_84
theorem cm_179 : Cond.instanceMethod (mt 179).1 ∈ lw_g := w_1496
theorem cs_179 : Cond.selects (mt 179).1.cls (mt 179).1 (mt 179).1 ∈ lw_g := w_1497
theorem cd_179 : (mt 179).1.cls ≠ "java/lang/invoke/MethodHandle" ∧ (mt 179).1.cls ≠ "java/lang/invoke/VarHandle" ∧ (parseMethodDescriptor (mt 179).1.desc).map (fun d => d.parameters.length) = some 1 := ⟨by decide +kernel, by decide +kernel, by decide +kernel⟩
theorem cl_179 : (mt 179).2.2.1 ≤ 45 := by decide
theorem cz_180 : (mt 180).2.2.2.2 = [] := rfl
theorem cc_180 : Cond.code (mt 180).1 (mt 180).2.1 (mt 180).2.2.1 (mt 180).2.2.2.1 ∈ lw_g := mG 1518 (by decide +kernel) rfl
theorem ci_180 : Cond.initialized (mt 180).1.cls ∈ lw_g := w_84
theorem cm_180 : Cond.instanceMethod (mt 180).1 ∈ lw_g := w_1516
theorem cs_180 : Cond.selects (mt 180).1.cls (mt 180).1 (mt 180).1 ∈ lw_g := w_1517
theorem cd_180 : (mt 180).1.cls ≠ "java/lang/invoke/MethodHandle" ∧ (mt 180).1.cls ≠ "java/lang/invoke/VarHandle" ∧ (parseMethodDescriptor (mt 180).1.desc).map (fun d => d.parameters.length) = some 2 := ⟨by decide +kernel, by decide +kernel, by decide +kernel⟩
theorem cl_180 : (mt 180).2.2.1 ≤ 45 := by decide
theorem cz_181 : (mt 181).2.2.2.2 = [] := rfl
theorem cc_181 : Cond.code (mt 181).1 (mt 181).2.1 (mt 181).2.2.1 (mt 181).2.2.2.1 ∈ lw_g := mG 894 (by decide +kernel) rfl
theorem ci_181 : Cond.initialized (mt 181).1.cls ∈ lw_g := w_84
theorem cm_181 : Cond.instanceMethod (mt 181).1 ∈ lw_g := w_892
theorem cs_181 : Cond.selects (mt 181).1.cls (mt 181).1 (mt 181).1 ∈ lw_g := w_893
theorem cd_181 : (mt 181).1.cls ≠ "java/lang/invoke/MethodHandle" ∧ (mt 181).1.cls ≠ "java/lang/invoke/VarHandle" ∧ (parseMethodDescriptor (mt 181).1.desc).map (fun d => d.parameters.length) = some 3 := ⟨by decide +kernel, by decide +kernel, by decide +kernel⟩
theorem cl_181 : (mt 181).2.2.1 ≤ 45 := by decide
theorem cz_182 : (mt 182).2.2.2.2 = [] := rfl
theorem cc_182 : Cond.code (mt 182).1 (mt 182).2.1 (mt 182).2.2.1 (mt 182).2.2.2.1 ∈ lw_g := mG 837 (by decide +kernel) rfl
theorem ci_182 : Cond.initialized (mt 182).1.cls ∈ lw_g := w_84
theorem cm_182 : Cond.instanceMethod (mt 182).1 ∈ lw_g := w_835
theorem cs_182 : Cond.selects (mt 182).1.cls (mt 182).1 (mt 182).1 ∈ lw_g := w_836
theorem cd_182 : (mt 182).1.cls ≠ "java/lang/invoke/MethodHandle" ∧ (mt 182).1.cls ≠ "java/lang/invoke/VarHandle" ∧ (parseMethodDescriptor (mt 182).1.desc).map (fun d => d.parameters.length) = some 2 := ⟨by decide +kernel, by decide +kernel, by decide +kernel⟩
theorem cl_182 : (mt 182).2.2.1 ≤ 45 := by decide
theorem cz_183 : (mt 183).2.2.2.2 = [] := rfl
theorem cc_183 : Cond.code (mt 183).1 (mt 183).2.1 (mt 183).2.2.1 (mt 183).2.2.2.1 ∈ lw_g := mG 529 (by decide +kernel) rfl
theorem ci_183 : Cond.initialized (mt 183).1.cls ∈ lw_g := w_84
theorem cm_183 : Cond.instanceMethod (mt 183).1 ∈ lw_g := w_527
theorem cs_183 : Cond.selects (mt 183).1.cls (mt 183).1 (mt 183).1 ∈ lw_g := w_528
theorem cd_183 : (mt 183).1.cls ≠ "java/lang/invoke/MethodHandle" ∧ (mt 183).1.cls ≠ "java/lang/invoke/VarHandle" ∧ (parseMethodDescriptor (mt 183).1.desc).map (fun d => d.parameters.length) = some 1 := ⟨by decide +kernel, by decide +kernel, by decide +kernel⟩
theorem cl_183 : (mt 183).2.2.1 ≤ 45 := by decide
theorem cz_185 : (mt 185).2.2.2.2 = [] := rfl
theorem cc_185 : Cond.code (mt 185).1 (mt 185).2.1 (mt 185).2.2.1 (mt 185).2.2.2.1 ∈ lw_g := mG 936 (by decide +kernel) rfl
theorem ci_185 : Cond.initialized (mt 185).1.cls ∈ lw_g := w_84
theorem cm_185 : Cond.instanceMethod (mt 185).1 ∈ lw_g := w_934
theorem cs_185 : Cond.selects (mt 185).1.cls (mt 185).1 (mt 185).1 ∈ lw_g := w_935
theorem cd_185 : (mt 185).1.cls ≠ "java/lang/invoke/MethodHandle" ∧ (mt 185).1.cls ≠ "java/lang/invoke/VarHandle" ∧ (parseMethodDescriptor (mt 185).1.desc).map (fun d => d.parameters.length) = some 1 := ⟨by decide +kernel, by decide +kernel, by decide +kernel⟩
theorem cl_185 : (mt 185).2.2.1 ≤ 45 := by decide
theorem cz_186 : (mt 186).2.2.2.2 = [] := rfl
theorem cc_186 : Cond.code (mt 186).1 (mt 186).2.1 (mt 186).2.2.1 (mt 186).2.2.2.1 ∈ lw_g := mG 1246 (by decide +kernel) rfl
theorem ci_186 : Cond.initialized (mt 186).1.cls ∈ lw_g := w_84
theorem cm_186 : Cond.instanceMethod (mt 186).1 ∈ lw_g := w_1244
theorem cs_186 : Cond.selects (mt 186).1.cls (mt 186).1 (mt 186).1 ∈ lw_g := w_1245
theorem cd_186 : (mt 186).1.cls ≠ "java/lang/invoke/MethodHandle" ∧ (mt 186).1.cls ≠ "java/lang/invoke/VarHandle" ∧ (parseMethodDescriptor (mt 186).1.desc).map (fun d => d.parameters.length) = some 1 := ⟨by decide +kernel, by decide +kernel, by decide +kernel⟩
theorem cl_186 : (mt 186).2.2.1 ≤ 45 := by decide
theorem cz_187 : (mt 187).2.2.2.2 = [] := rfl
theorem cc_187 : Cond.code (mt 187).1 (mt 187).2.1 (mt 187).2.2.1 (mt 187).2.2.2.1 ∈ lw_g := mG 876 (by decide +kernel) rfl
theorem ci_187 : Cond.initialized (mt 187).1.cls ∈ lw_g := w_84
theorem cm_187 : Cond.instanceMethod (mt 187).1 ∈ lw_g := w_874
theorem cs_187 : Cond.selects (mt 187).1.cls (mt 187).1 (mt 187).1 ∈ lw_g := w_875
theorem cd_187 : (mt 187).1.cls ≠ "java/lang/invoke/MethodHandle" ∧ (mt 187).1.cls ≠ "java/lang/invoke/VarHandle" ∧ (parseMethodDescriptor (mt 187).1.desc).map (fun d => d.parameters.length) = some 1 := ⟨by decide +kernel, by decide +kernel, by decide +kernel⟩
theorem cl_187 : (mt 187).2.2.1 ≤ 45 := by decide
theorem cz_188 : (mt 188).2.2.2.2 = [] := rfl
theorem cc_188 : Cond.code (mt 188).1 (mt 188).2.1 (mt 188).2.2.1 (mt 188).2.2.2.1 ∈ lw_g := mG 923 (by decide +kernel) rfl
theorem ci_188 : Cond.initialized (mt 188).1.cls ∈ lw_g := w_84
theorem cm_188 : Cond.instanceMethod (mt 188).1 ∈ lw_g := w_921
theorem cs_188 : Cond.selects (mt 188).1.cls (mt 188).1 (mt 188).1 ∈ lw_g := w_922
theorem cd_188 : (mt 188).1.cls ≠ "java/lang/invoke/MethodHandle" ∧ (mt 188).1.cls ≠ "java/lang/invoke/VarHandle" ∧ (parseMethodDescriptor (mt 188).1.desc).map (fun d => d.parameters.length) = some 2 := ⟨by decide +kernel, by decide +kernel, by decide +kernel⟩
theorem cl_188 : (mt 188).2.2.1 ≤ 45 := by decide
theorem cz_190 : (mt 190).2.2.2.2 = [] := rfl
theorem cc_190 : Cond.code (mt 190).1 (mt 190).2.1 (mt 190).2.2.1 (mt 190).2.2.2.1 ∈ lw_g := mG 691 (by decide +kernel) rfl
theorem ci_190 : Cond.initialized (mt 190).1.cls ∈ lw_g := w_84
theorem cm_190 : Cond.instanceMethod (mt 190).1 ∈ lw_g := w_690
theorem cs_190 : Cond.selects (mt 190).1.cls (mt 190).1 (mt 190).1 ∈ lw_g := w_3
theorem cd_190 : (mt 190).1.cls ≠ "java/lang/invoke/MethodHandle" ∧ (mt 190).1.cls ≠ "java/lang/invoke/VarHandle" ∧ (parseMethodDescriptor (mt 190).1.desc).map (fun d => d.parameters.length) = some 1 := ⟨by decide +kernel, by decide +kernel, by decide +kernel⟩
theorem cl_190 : (mt 190).2.2.1 ≤ 45 := by decide
theorem cz_191 : (mt 191).2.2.2.2 = [] := rfl
theorem cc_191 : Cond.code (mt 191).1 (mt 191).2.1 (mt 191).2.2.1 (mt 191).2.2.2.1 ∈ lw_g := mG 737 (by decide +kernel) rfl
theorem ci_191 : Cond.initialized (mt 191).1.cls ∈ lw_g := w_84
theorem cm_191 : Cond.instanceMethod (mt 191).1 ∈ lw_g := w_736
theorem cs_191 : Cond.selects (mt 191).1.cls (mt 191).1 (mt 191).1 ∈ lw_g := w_4
theorem cd_191 : (mt 191).1.cls ≠ "java/lang/invoke/MethodHandle" ∧ (mt 191).1.cls ≠ "java/lang/invoke/VarHandle" ∧ (parseMethodDescriptor (mt 191).1.desc).map (fun d => d.parameters.length) = some 1 := ⟨by decide +kernel, by decide +kernel, by decide +kernel⟩
theorem cl_191 : (mt 191).2.2.1 ≤ 45 := by decide
theorem cz_192 : (mt 192).2.2.2.2 = [] := rfl
theorem cc_192 : Cond.code (mt 192).1 (mt 192).2.1 (mt 192).2.2.1 (mt 192).2.2.2.1 ∈ lw_g := mG 774 (by decide +kernel) rfl
theorem ci_192 : Cond.initialized (mt 192).1.cls ∈ lw_g := w_84
theorem cm_192 : Cond.instanceMethod (mt 192).1 ∈ lw_g := w_773
theorem cs_192 : Cond.selects (mt 192).1.cls (mt 192).1 (mt 192).1 ∈ lw_g := w_5
theorem cd_192 : (mt 192).1.cls ≠ "java/lang/invoke/MethodHandle" ∧ (mt 192).1.cls ≠ "java/lang/invoke/VarHandle" ∧ (parseMethodDescriptor (mt 192).1.desc).map (fun d => d.parameters.length) = some 1 := ⟨by decide +kernel, by decide +kernel, by decide +kernel⟩
theorem cl_192 : (mt 192).2.2.1 ≤ 45 := by decide
theorem cz_193 : (mt 193).2.2.2.2 = [] := rfl
theorem cc_193 : Cond.code (mt 193).1 (mt 193).2.1 (mt 193).2.2.1 (mt 193).2.2.2.1 ∈ lw_g := mG 810 (by decide +kernel) rfl
theorem ci_193 : Cond.initialized (mt 193).1.cls ∈ lw_g := w_84
theorem cm_193 : Cond.instanceMethod (mt 193).1 ∈ lw_g := w_809
theorem cs_193 : Cond.selects (mt 193).1.cls (mt 193).1 (mt 193).1 ∈ lw_g := w_6
theorem cd_193 : (mt 193).1.cls ≠ "java/lang/invoke/MethodHandle" ∧ (mt 193).1.cls ≠ "java/lang/invoke/VarHandle" ∧ (parseMethodDescriptor (mt 193).1.desc).map (fun d => d.parameters.length) = some 1 := ⟨by decide +kernel, by decide +kernel, by decide +kernel⟩
theorem cl_193 : (mt 193).2.2.1 ≤ 45 := by decide
theorem cz_194 : (mt 194).2.2.2.2 = [] := rfl
theorem cc_194 : Cond.code (mt 194).1 (mt 194).2.1 (mt 194).2.2.1 (mt 194).2.2.2.1 ∈ lw_g := mG 833 (by decide +kernel) rfl
theorem ci_194 : Cond.initialized (mt 194).1.cls ∈ lw_g := w_84
theorem cm_194 : Cond.instanceMethod (mt 194).1 ∈ lw_g := w_832
theorem cs_194 : Cond.selects (mt 194).1.cls (mt 194).1 (mt 194).1 ∈ lw_g := w_7
theorem cd_194 : (mt 194).1.cls ≠ "java/lang/invoke/MethodHandle" ∧ (mt 194).1.cls ≠ "java/lang/invoke/VarHandle" ∧ (parseMethodDescriptor (mt 194).1.desc).map (fun d => d.parameters.length) = some 2 := ⟨by decide +kernel, by decide +kernel, by decide +kernel⟩
theorem cl_194 : (mt 194).2.2.1 ≤ 45 := by decide
theorem cz_195 : (mt 195).2.2.2.2 = [] := rfl
theorem cc_195 : Cond.code (mt 195).1 (mt 195).2.1 (mt 195).2.2.1 (mt 195).2.2.2.1 ∈ lw_g := mG 686 (by decide +kernel) rfl
theorem ci_195 : Cond.initialized (mt 195).1.cls ∈ lw_g := w_84
theorem cm_195 : Cond.static (mt 195).1 ∈ lw_g := w_685
theorem cd_195 : (mt 195).1.cls ≠ "java/lang/invoke/MethodHandle" ∧ (mt 195).1.cls ≠ "java/lang/invoke/VarHandle" ∧ (parseMethodDescriptor (mt 195).1.desc).map (fun d => d.parameters.length) = some 2 := ⟨by decide +kernel, by decide +kernel, by decide +kernel⟩
theorem cl_195 : (mt 195).2.2.1 ≤ 45 := by decide
theorem cz_196 : (mt 196).2.2.2.2 = [] := rfl
theorem cc_196 : Cond.code (mt 196).1 (mt 196).2.1 (mt 196).2.2.1 (mt 196).2.2.2.1 ∈ lw_g := mG 606 (by decide +kernel) rfl
theorem ci_196 : Cond.initialized (mt 196).1.cls ∈ lw_g := w_84
theorem cm_196 : Cond.static (mt 196).1 ∈ lw_g := w_605
theorem cd_196 : (mt 196).1.cls ≠ "java/lang/invoke/MethodHandle" ∧ (mt 196).1.cls ≠ "java/lang/invoke/VarHandle" ∧ (parseMethodDescriptor (mt 196).1.desc).map (fun d => d.parameters.length) = some 2 := ⟨by decide +kernel, by decide +kernel, by decide +kernel⟩
theorem cl_196 : (mt 196).2.2.1 ≤ 45 := by decide
theorem cz_197 : (mt 197).2.2.2.2 = [] := rfl
theorem cc_197 : Cond.code (mt 197).1 (mt 197).2.1 (mt 197).2.2.1 (mt 197).2.2.2.1 ∈ lw_g := mG 781 (by decide +kernel) rfl
theorem ci_197 : Cond.initialized (mt 197).1.cls ∈ lw_g := w_84
theorem cm_197 : Cond.static (mt 197).1 ∈ lw_g := w_780
theorem cd_197 : (mt 197).1.cls ≠ "java/lang/invoke/MethodHandle" ∧ (mt 197).1.cls ≠ "java/lang/invoke/VarHandle" ∧ (parseMethodDescriptor (mt 197).1.desc).map (fun d => d.parameters.length) = some 1 := ⟨by decide +kernel, by decide +kernel, by decide +kernel⟩
theorem cl_197 : (mt 197).2.2.1 ≤ 45 := by decide
theorem cz_198 : (mt 198).2.2.2.2 = [] := rfl
theorem cc_198 : Cond.code (mt 198).1 (mt 198).2.1 (mt 198).2.2.1 (mt 198).2.2.2.1 ∈ lw_g := mG 1275 (by decide +kernel) rfl
theorem ci_198 : Cond.initialized (mt 198).1.cls ∈ lw_g := w_84
theorem cm_198 : Cond.static (mt 198).1 ∈ lw_g := w_1274
theorem cd_198 : (mt 198).1.cls ≠ "java/lang/invoke/MethodHandle" ∧ (mt 198).1.cls ≠ "java/lang/invoke/VarHandle" ∧ (parseMethodDescriptor (mt 198).1.desc).map (fun d => d.parameters.length) = some 1 := ⟨by decide +kernel, by decide +kernel, by decide +kernel⟩
theorem cl_198 : (mt 198).2.2.1 ≤ 45 := by decide
theorem cz_199 : (mt 199).2.2.2.2 = [] := rfl
theorem cc_199 : Cond.code (mt 199).1 (mt 199).2.1 (mt 199).2.2.1 (mt 199).2.2.2.1 ∈ lw_g := mG 939 (by decide +kernel) rfl
theorem ci_199 : Cond.initialized (mt 199).1.cls ∈ lw_g := w_84
theorem cm_199 : Cond.static (mt 199).1 ∈ lw_g := w_938
theorem cd_199 : (mt 199).1.cls ≠ "java/lang/invoke/MethodHandle" ∧ (mt 199).1.cls ≠ "java/lang/invoke/VarHandle" ∧ (parseMethodDescriptor (mt 199).1.desc).map (fun d => d.parameters.length) = some 1 := ⟨by decide +kernel, by decide +kernel, by decide +kernel⟩
theorem cl_199 : (mt 199).2.2.1 ≤ 45 := by decide
theorem cz_200 : (mt 200).2.2.2.2 = [] := rfl
theorem cc_200 : Cond.code (mt 200).1 (mt 200).2.1 (mt 200).2.2.1 (mt 200).2.2.2.1 ∈ lw_g := mG 609 (by decide +kernel) rfl
theorem ci_200 : Cond.initialized (mt 200).1.cls ∈ lw_g := w_84
theorem cm_200 : Cond.static (mt 200).1 ∈ lw_g := w_608
theorem cd_200 : (mt 200).1.cls ≠ "java/lang/invoke/MethodHandle" ∧ (mt 200).1.cls ≠ "java/lang/invoke/VarHandle" ∧ (parseMethodDescriptor (mt 200).1.desc).map (fun d => d.parameters.length) = some 2 := ⟨by decide +kernel, by decide +kernel, by decide +kernel⟩
theorem cl_200 : (mt 200).2.2.1 ≤ 45 := by decide
theorem cz_201 : (mt 201).2.2.2.2 = [] := rfl
theorem cc_201 : Cond.code (mt 201).1 (mt 201).2.1 (mt 201).2.2.1 (mt 201).2.2.2.1 ∈ lw_g := mG 1149 (by decide +kernel) rfl
theorem ci_201 : Cond.initialized (mt 201).1.cls ∈ lw_g := w_84
theorem cm_201 : Cond.static (mt 201).1 ∈ lw_g := w_1148
theorem cd_201 : (mt 201).1.cls ≠ "java/lang/invoke/MethodHandle" ∧ (mt 201).1.cls ≠ "java/lang/invoke/VarHandle" ∧ (parseMethodDescriptor (mt 201).1.desc).map (fun d => d.parameters.length) = some 2 := ⟨by decide +kernel, by decide +kernel, by decide +kernel⟩
theorem cl_201 : (mt 201).2.2.1 ≤ 45 := by decide
theorem cz_202 : (mt 202).2.2.2.2 = [] := rfl
theorem cc_202 : Cond.code (mt 202).1 (mt 202).2.1 (mt 202).2.2.1 (mt 202).2.2.2.1 ∈ lw_g := mG 1317 (by decide +kernel) rfl
theorem ci_202 : Cond.initialized (mt 202).1.cls ∈ lw_g := w_84
theorem cm_202 : Cond.instanceMethod (mt 202).1 ∈ lw_g := w_1316
theorem cs_202 : Cond.selects (mt 202).1.cls (mt 202).1 (mt 202).1 ∈ lw_g := w_31
theorem cd_202 : (mt 202).1.cls ≠ "java/lang/invoke/MethodHandle" ∧ (mt 202).1.cls ≠ "java/lang/invoke/VarHandle" ∧ (parseMethodDescriptor (mt 202).1.desc).map (fun d => d.parameters.length) = some 5 := ⟨by decide +kernel, by decide +kernel, by decide +kernel⟩
theorem cl_202 : (mt 202).2.2.1 ≤ 45 := by decide
theorem cz_203 : (mt 203).2.2.2.2 = [] := rfl
theorem cc_203 : Cond.code (mt 203).1 (mt 203).2.1 (mt 203).2.2.1 (mt 203).2.2.2.1 ∈ lw_g := mG 1768 (by decide +kernel) rfl
theorem ci_203 : Cond.initialized (mt 203).1.cls ∈ lw_g := w_105
theorem cm_203 : Cond.instanceMethod (mt 203).1 ∈ lw_g := w_1767
theorem cd_203 : (mt 203).1.cls ≠ "java/lang/invoke/MethodHandle" ∧ (mt 203).1.cls ≠ "java/lang/invoke/VarHandle" ∧ (parseMethodDescriptor (mt 203).1.desc).map (fun d => d.parameters.length) = some 6 := ⟨by decide +kernel, by decide +kernel, by decide +kernel⟩
theorem cl_203 : (mt 203).2.2.1 ≤ 45 := by decide
theorem cz_204 : (mt 204).2.2.2.2 = [] := rfl
theorem cc_204 : Cond.code (mt 204).1 (mt 204).2.1 (mt 204).2.2.1 (mt 204).2.2.2.1 ∈ lw_g := mG 1773 (by decide +kernel) rfl
theorem ci_204 : Cond.initialized (mt 204).1.cls ∈ lw_g := w_105
theorem cm_204 : Cond.instanceMethod (mt 204).1 ∈ lw_g := w_1772
theorem cs_204 : Cond.selects (mt 204).1.cls (mt 204).1 (mt 204).1 ∈ lw_g := w_46
theorem cd_204 : (mt 204).1.cls ≠ "java/lang/invoke/MethodHandle" ∧ (mt 204).1.cls ≠ "java/lang/invoke/VarHandle" ∧ (parseMethodDescriptor (mt 204).1.desc).map (fun d => d.parameters.length) = some 1 := ⟨by decide +kernel, by decide +kernel, by decide +kernel⟩
theorem cl_204 : (mt 204).2.2.1 ≤ 45 := by decide
theorem cz_205 : (mt 205).2.2.2.2 = [] := rfl
theorem cc_205 : Cond.code (mt 205).1 (mt 205).2.1 (mt 205).2.2.1 (mt 205).2.2.2.1 ∈ lw_g := mG 1777 (by decide +kernel) rfl
theorem ci_205 : Cond.initialized (mt 205).1.cls ∈ lw_g := w_105
theorem cm_205 : Cond.instanceMethod (mt 205).1 ∈ lw_g := w_1776
theorem cs_205 : Cond.selects (mt 205).1.cls (mt 205).1 (mt 205).1 ∈ lw_g := w_47
theorem cd_205 : (mt 205).1.cls ≠ "java/lang/invoke/MethodHandle" ∧ (mt 205).1.cls ≠ "java/lang/invoke/VarHandle" ∧ (parseMethodDescriptor (mt 205).1.desc).map (fun d => d.parameters.length) = some 3 := ⟨by decide +kernel, by decide +kernel, by decide +kernel⟩
theorem cl_205 : (mt 205).2.2.1 ≤ 45 := by decide
theorem cz_206 : (mt 206).2.2.2.2 = [] := rfl
theorem cc_206 : Cond.code (mt 206).1 (mt 206).2.1 (mt 206).2.2.1 (mt 206).2.2.2.1 ∈ lw_g := mG 1782 (by decide +kernel) rfl
theorem ci_206 : Cond.initialized (mt 206).1.cls ∈ lw_g := w_105
theorem cm_206 : Cond.instanceMethod (mt 206).1 ∈ lw_g := w_1781
theorem cs_206 : Cond.selects (mt 206).1.cls (mt 206).1 (mt 206).1 ∈ lw_g := w_48
theorem cd_206 : (mt 206).1.cls ≠ "java/lang/invoke/MethodHandle" ∧ (mt 206).1.cls ≠ "java/lang/invoke/VarHandle" ∧ (parseMethodDescriptor (mt 206).1.desc).map (fun d => d.parameters.length) = some 1 := ⟨by decide +kernel, by decide +kernel, by decide +kernel⟩
theorem cl_206 : (mt 206).2.2.1 ≤ 45 := by decide
theorem cz_207 : (mt 207).2.2.2.2 = [] := rfl
theorem cc_207 : Cond.code (mt 207).1 (mt 207).2.1 (mt 207).2.2.1 (mt 207).2.2.2.1 ∈ lw_g := mG 1786 (by decide +kernel) rfl
theorem ci_207 : Cond.initialized (mt 207).1.cls ∈ lw_g := w_105
theorem cm_207 : Cond.instanceMethod (mt 207).1 ∈ lw_g := w_1785
theorem cs_207 : Cond.selects (mt 207).1.cls (mt 207).1 (mt 207).1 ∈ lw_g := w_49
theorem cd_207 : (mt 207).1.cls ≠ "java/lang/invoke/MethodHandle" ∧ (mt 207).1.cls ≠ "java/lang/invoke/VarHandle" ∧ (parseMethodDescriptor (mt 207).1.desc).map (fun d => d.parameters.length) = some 1 := ⟨by decide +kernel, by decide +kernel, by decide +kernel⟩
theorem cl_207 : (mt 207).2.2.1 ≤ 45 := by decide
theorem cz_208 : (mt 208).2.2.2.2 = [] := rfl
theorem cc_208 : Cond.code (mt 208).1 (mt 208).2.1 (mt 208).2.2.1 (mt 208).2.2.2.1 ∈ lw_g := mG 1790 (by decide +kernel) rfl
theorem ci_208 : Cond.initialized (mt 208).1.cls ∈ lw_g := w_105
theorem cm_208 : Cond.instanceMethod (mt 208).1 ∈ lw_g := w_1789
theorem cs_208 : Cond.selects (mt 208).1.cls (mt 208).1 (mt 208).1 ∈ lw_g := w_50
theorem cd_208 : (mt 208).1.cls ≠ "java/lang/invoke/MethodHandle" ∧ (mt 208).1.cls ≠ "java/lang/invoke/VarHandle" ∧ (parseMethodDescriptor (mt 208).1.desc).map (fun d => d.parameters.length) = some 2 := ⟨by decide +kernel, by decide +kernel, by decide +kernel⟩
theorem cl_208 : (mt 208).2.2.1 ≤ 45 := by decide
theorem cz_209 : (mt 209).2.2.2.2 = [] := rfl
theorem cc_209 : Cond.code (mt 209).1 (mt 209).2.1 (mt 209).2.2.1 (mt 209).2.2.2.1 ∈ lw_g := mG 1798 (by decide +kernel) rfl
theorem ci_209 : Cond.initialized (mt 209).1.cls ∈ lw_g := w_105
theorem cm_209 : Cond.instanceMethod (mt 209).1 ∈ lw_g := w_1797
theorem cs_209 : Cond.selects (mt 209).1.cls (mt 209).1 (mt 209).1 ∈ lw_g := w_52
theorem cd_209 : (mt 209).1.cls ≠ "java/lang/invoke/MethodHandle" ∧ (mt 209).1.cls ≠ "java/lang/invoke/VarHandle" ∧ (parseMethodDescriptor (mt 209).1.desc).map (fun d => d.parameters.length) = some 2 := ⟨by decide +kernel, by decide +kernel, by decide +kernel⟩
theorem cl_209 : (mt 209).2.2.1 ≤ 45 := by decide
theorem cz_210 : (mt 210).2.2.2.2 = [] := rfl
theorem cc_210 : Cond.code (mt 210).1 (mt 210).2.1 (mt 210).2.2.1 (mt 210).2.2.2.1 ∈ lw_g := mG 1794 (by decide +kernel) rfl
theorem ci_210 : Cond.initialized (mt 210).1.cls ∈ lw_g := w_105
theorem cm_210 : Cond.instanceMethod (mt 210).1 ∈ lw_g := w_1793
theorem cs_210 : Cond.selects (mt 210).1.cls (mt 210).1 (mt 210).1 ∈ lw_g := w_51
theorem cd_210 : (mt 210).1.cls ≠ "java/lang/invoke/MethodHandle" ∧ (mt 210).1.cls ≠ "java/lang/invoke/VarHandle" ∧ (parseMethodDescriptor (mt 210).1.desc).map (fun d => d.parameters.length) = some 1 := ⟨by decide +kernel, by decide +kernel, by decide +kernel⟩
theorem cl_210 : (mt 210).2.2.1 ≤ 45 := by decide
theorem cz_211 : (mt 211).2.2.2.2 = [] := rfl
theorem cc_211 : Cond.code (mt 211).1 (mt 211).2.1 (mt 211).2.2.1 (mt 211).2.2.2.1 ∈ lw_g := mG 1803 (by decide +kernel) rfl
theorem ci_211 : Cond.initialized (mt 211).1.cls ∈ lw_g := w_105
theorem cm_211 : Cond.instanceMethod (mt 211).1 ∈ lw_g := w_1802
theorem cs_211 : Cond.selects (mt 211).1.cls (mt 211).1 (mt 211).1 ∈ lw_g := w_53
theorem cd_211 : (mt 211).1.cls ≠ "java/lang/invoke/MethodHandle" ∧ (mt 211).1.cls ≠ "java/lang/invoke/VarHandle" ∧ (parseMethodDescriptor (mt 211).1.desc).map (fun d => d.parameters.length) = some 4 := ⟨by decide +kernel, by decide +kernel, by decide +kernel⟩
theorem cl_211 : (mt 211).2.2.1 ≤ 45 := by decide
theorem cz_212 : (mt 212).2.2.2.2 = [] := rfl
theorem cc_212 : Cond.code (mt 212).1 (mt 212).2.1 (mt 212).2.2.1 (mt 212).2.2.2.1 ∈ lw_g := mG 1818 (by decide +kernel) rfl
theorem ci_212 : Cond.initialized (mt 212).1.cls ∈ lw_g := w_105
theorem cm_212 : Cond.instanceMethod (mt 212).1 ∈ lw_g := w_1817
theorem cs_212 : Cond.selects (mt 212).1.cls (mt 212).1 (mt 212).1 ∈ lw_g := w_56
theorem cd_212 : (mt 212).1.cls ≠ "java/lang/invoke/MethodHandle" ∧ (mt 212).1.cls ≠ "java/lang/invoke/VarHandle" ∧ (parseMethodDescriptor (mt 212).1.desc).map (fun d => d.parameters.length) = some 1 := ⟨by decide +kernel, by decide +kernel, by decide +kernel⟩
theorem cl_212 : (mt 212).2.2.1 ≤ 45 := by decide
theorem cz_213 : (mt 213).2.2.2.2 = [] := rfl
theorem cc_213 : Cond.code (mt 213).1 (mt 213).2.1 (mt 213).2.2.1 (mt 213).2.2.2.1 ∈ lw_g := mG 1814 (by decide +kernel) rfl
theorem ci_213 : Cond.initialized (mt 213).1.cls ∈ lw_g := w_105
theorem cm_213 : Cond.instanceMethod (mt 213).1 ∈ lw_g := w_1813
theorem cs_213 : Cond.selects (mt 213).1.cls (mt 213).1 (mt 213).1 ∈ lw_g := w_55
theorem cd_213 : (mt 213).1.cls ≠ "java/lang/invoke/MethodHandle" ∧ (mt 213).1.cls ≠ "java/lang/invoke/VarHandle" ∧ (parseMethodDescriptor (mt 213).1.desc).map (fun d => d.parameters.length) = some 1 := ⟨by decide +kernel, by decide +kernel, by decide +kernel⟩
theorem cl_213 : (mt 213).2.2.1 ≤ 45 := by decide
theorem cz_214 : (mt 214).2.2.2.2 = [] := rfl
theorem cc_214 : Cond.code (mt 214).1 (mt 214).2.1 (mt 214).2.2.1 (mt 214).2.2.2.1 ∈ lw_g := mG 1810 (by decide +kernel) rfl
theorem ci_214 : Cond.initialized (mt 214).1.cls ∈ lw_g := w_105
theorem cm_214 : Cond.instanceMethod (mt 214).1 ∈ lw_g := w_1809
theorem cs_214 : Cond.selects (mt 214).1.cls (mt 214).1 (mt 214).1 ∈ lw_g := w_54
theorem cd_214 : (mt 214).1.cls ≠ "java/lang/invoke/MethodHandle" ∧ (mt 214).1.cls ≠ "java/lang/invoke/VarHandle" ∧ (parseMethodDescriptor (mt 214).1.desc).map (fun d => d.parameters.length) = some 0 := ⟨by decide +kernel, by decide +kernel, by decide +kernel⟩
theorem cl_214 : (mt 214).2.2.1 ≤ 45 := by decide
theorem cz_215 : (mt 215).2.2.2.2 = [] := rfl
theorem cc_215 : Cond.code (mt 215).1 (mt 215).2.1 (mt 215).2.2.1 (mt 215).2.2.2.1 ∈ lw_g := mG 1837 (by decide +kernel) rfl
theorem ci_215 : Cond.initialized (mt 215).1.cls ∈ lw_g := w_105
theorem cm_215 : Cond.instanceMethod (mt 215).1 ∈ lw_g := w_1836
theorem cs_215 : Cond.selects (mt 215).1.cls (mt 215).1 (mt 215).1 ∈ lw_g := w_60
theorem cd_215 : (mt 215).1.cls ≠ "java/lang/invoke/MethodHandle" ∧ (mt 215).1.cls ≠ "java/lang/invoke/VarHandle" ∧ (parseMethodDescriptor (mt 215).1.desc).map (fun d => d.parameters.length) = some 2 := ⟨by decide +kernel, by decide +kernel, by decide +kernel⟩
theorem cl_215 : (mt 215).2.2.1 ≤ 45 := by decide
theorem cz_216 : (mt 216).2.2.2.2 = [] := rfl
theorem cc_216 : Cond.code (mt 216).1 (mt 216).2.1 (mt 216).2.2.1 (mt 216).2.2.2.1 ∈ lw_g := mG 1833 (by decide +kernel) rfl
theorem ci_216 : Cond.initialized (mt 216).1.cls ∈ lw_g := w_105
theorem cm_216 : Cond.instanceMethod (mt 216).1 ∈ lw_g := w_1832
theorem cs_216 : Cond.selects (mt 216).1.cls (mt 216).1 (mt 216).1 ∈ lw_g := w_59
theorem cd_216 : (mt 216).1.cls ≠ "java/lang/invoke/MethodHandle" ∧ (mt 216).1.cls ≠ "java/lang/invoke/VarHandle" ∧ (parseMethodDescriptor (mt 216).1.desc).map (fun d => d.parameters.length) = some 2 := ⟨by decide +kernel, by decide +kernel, by decide +kernel⟩
theorem cl_216 : (mt 216).2.2.1 ≤ 45 := by decide
theorem cz_217 : (mt 217).2.2.2.2 = [] := rfl
theorem cc_217 : Cond.code (mt 217).1 (mt 217).2.1 (mt 217).2.2.1 (mt 217).2.2.2.1 ∈ lw_g := mG 1829 (by decide +kernel) rfl
theorem ci_217 : Cond.initialized (mt 217).1.cls ∈ lw_g := w_105
theorem cm_217 : Cond.static (mt 217).1 ∈ lw_g := w_1828
theorem cd_217 : (mt 217).1.cls ≠ "java/lang/invoke/MethodHandle" ∧ (mt 217).1.cls ≠ "java/lang/invoke/VarHandle" ∧ (parseMethodDescriptor (mt 217).1.desc).map (fun d => d.parameters.length) = some 2 := ⟨by decide +kernel, by decide +kernel, by decide +kernel⟩
theorem cl_217 : (mt 217).2.2.1 ≤ 45 := by decide
theorem cz_218 : (mt 218).2.2.2.2 = [] := rfl
theorem cc_218 : Cond.code (mt 218).1 (mt 218).2.1 (mt 218).2.2.1 (mt 218).2.2.2.1 ∈ lw_g := mG 1826 (by decide +kernel) rfl
theorem ci_218 : Cond.initialized (mt 218).1.cls ∈ lw_g := w_105
theorem cm_218 : Cond.instanceMethod (mt 218).1 ∈ lw_g := w_1825
theorem cs_218 : Cond.selects (mt 218).1.cls (mt 218).1 (mt 218).1 ∈ lw_g := w_58
theorem cd_218 : (mt 218).1.cls ≠ "java/lang/invoke/MethodHandle" ∧ (mt 218).1.cls ≠ "java/lang/invoke/VarHandle" ∧ (parseMethodDescriptor (mt 218).1.desc).map (fun d => d.parameters.length) = some 0 := ⟨by decide +kernel, by decide +kernel, by decide +kernel⟩
theorem cl_218 : (mt 218).2.2.1 ≤ 45 := by decide
theorem cz_219 : (mt 219).2.2.2.2 = [] := rfl
theorem cc_219 : Cond.code (mt 219).1 (mt 219).2.1 (mt 219).2.2.1 (mt 219).2.2.2.1 ∈ lw_g := mG 1841 (by decide +kernel) rfl
theorem ci_219 : Cond.initialized (mt 219).1.cls ∈ lw_g := w_105
theorem cm_219 : Cond.instanceMethod (mt 219).1 ∈ lw_g := w_1840
theorem cs_219 : Cond.selects (mt 219).1.cls (mt 219).1 (mt 219).1 ∈ lw_g := w_61
theorem cd_219 : (mt 219).1.cls ≠ "java/lang/invoke/MethodHandle" ∧ (mt 219).1.cls ≠ "java/lang/invoke/VarHandle" ∧ (parseMethodDescriptor (mt 219).1.desc).map (fun d => d.parameters.length) = some 1 := ⟨by decide +kernel, by decide +kernel, by decide +kernel⟩
theorem cl_219 : (mt 219).2.2.1 ≤ 45 := by decide
theorem cz_220 : (mt 220).2.2.2.2 = [] := rfl
theorem cc_220 : Cond.code (mt 220).1 (mt 220).2.1 (mt 220).2.2.1 (mt 220).2.2.2.1 ∈ lw_g := mG 1822 (by decide +kernel) rfl
theorem ci_220 : Cond.initialized (mt 220).1.cls ∈ lw_g := w_105
theorem cm_220 : Cond.instanceMethod (mt 220).1 ∈ lw_g := w_1821
theorem cs_220 : Cond.selects (mt 220).1.cls (mt 220).1 (mt 220).1 ∈ lw_g := w_57
theorem cd_220 : (mt 220).1.cls ≠ "java/lang/invoke/MethodHandle" ∧ (mt 220).1.cls ≠ "java/lang/invoke/VarHandle" ∧ (parseMethodDescriptor (mt 220).1.desc).map (fun d => d.parameters.length) = some 0 := ⟨by decide +kernel, by decide +kernel, by decide +kernel⟩
theorem cl_220 : (mt 220).2.2.1 ≤ 45 := by decide
theorem cz_221 : (mt 221).2.2.2.2 = [] := rfl
theorem cc_221 : Cond.code (mt 221).1 (mt 221).2.1 (mt 221).2.2.1 (mt 221).2.2.2.1 ∈ lw_g := mG 1846 (by decide +kernel) rfl
theorem ci_221 : Cond.initialized (mt 221).1.cls ∈ lw_g := w_105
theorem cm_221 : Cond.instanceMethod (mt 221).1 ∈ lw_g := w_1845
theorem cs_221 : Cond.selects (mt 221).1.cls (mt 221).1 (mt 221).1 ∈ lw_g := w_62
theorem cd_221 : (mt 221).1.cls ≠ "java/lang/invoke/MethodHandle" ∧ (mt 221).1.cls ≠ "java/lang/invoke/VarHandle" ∧ (parseMethodDescriptor (mt 221).1.desc).map (fun d => d.parameters.length) = some 0 := ⟨by decide +kernel, by decide +kernel, by decide +kernel⟩
theorem cl_221 : (mt 221).2.2.1 ≤ 45 := by decide
theorem cz_222 : (mt 222).2.2.2.2 = [] := rfl
theorem cc_222 : Cond.code (mt 222).1 (mt 222).2.1 (mt 222).2.2.1 (mt 222).2.2.2.1 ∈ lw_g := mG 1850 (by decide +kernel) rfl
theorem ci_222 : Cond.initialized (mt 222).1.cls ∈ lw_g := w_105
theorem cm_222 : Cond.instanceMethod (mt 222).1 ∈ lw_g := w_1849
theorem cs_222 : Cond.selects (mt 222).1.cls (mt 222).1 (mt 222).1 ∈ lw_g := w_63
theorem cd_222 : (mt 222).1.cls ≠ "java/lang/invoke/MethodHandle" ∧ (mt 222).1.cls ≠ "java/lang/invoke/VarHandle" ∧ (parseMethodDescriptor (mt 222).1.desc).map (fun d => d.parameters.length) = some 3 := ⟨by decide +kernel, by decide +kernel, by decide +kernel⟩
theorem cl_222 : (mt 222).2.2.1 ≤ 45 := by decide
theorem cz_223 : (mt 223).2.2.2.2 = [] := rfl
theorem cc_223 : Cond.code (mt 223).1 (mt 223).2.1 (mt 223).2.2.1 (mt 223).2.2.2.1 ∈ lw_g := mG 1946 (by decide +kernel) rfl
theorem ci_223 : Cond.initialized (mt 223).1.cls ∈ lw_g := w_105
theorem cm_223 : Cond.instanceMethod (mt 223).1 ∈ lw_g := w_1945
theorem cs_223 : Cond.selects (mt 223).1.cls (mt 223).1 (mt 223).1 ∈ lw_g := w_64
theorem cd_223 : (mt 223).1.cls ≠ "java/lang/invoke/MethodHandle" ∧ (mt 223).1.cls ≠ "java/lang/invoke/VarHandle" ∧ (parseMethodDescriptor (mt 223).1.desc).map (fun d => d.parameters.length) = some 1 := ⟨by decide +kernel, by decide +kernel, by decide +kernel⟩
theorem cl_223 : (mt 223).2.2.1 ≤ 45 := by decide
theorem cz_224 : (mt 224).2.2.2.2 = [] := rfl
theorem cc_224 : Cond.code (mt 224).1 (mt 224).2.1 (mt 224).2.2.1 (mt 224).2.2.2.1 ∈ lw_g := mG 2071 (by decide +kernel) rfl
theorem ci_224 : Cond.initialized (mt 224).1.cls ∈ lw_g := w_105
theorem cm_224 : Cond.instanceMethod (mt 224).1 ∈ lw_g := w_2070
theorem cs_224 : Cond.selects (mt 224).1.cls (mt 224).1 (mt 224).1 ∈ lw_g := w_81
theorem cd_224 : (mt 224).1.cls ≠ "java/lang/invoke/MethodHandle" ∧ (mt 224).1.cls ≠ "java/lang/invoke/VarHandle" ∧ (parseMethodDescriptor (mt 224).1.desc).map (fun d => d.parameters.length) = some 0 := ⟨by decide +kernel, by decide +kernel, by decide +kernel⟩
theorem cl_224 : (mt 224).2.2.1 ≤ 45 := by decide
theorem cz_225 : (mt 225).2.2.2.2 = [] := rfl
theorem cc_225 : Cond.code (mt 225).1 (mt 225).2.1 (mt 225).2.2.1 (mt 225).2.2.2.1 ∈ lw_g := mG 1966 (by decide +kernel) rfl
theorem ci_225 : Cond.initialized (mt 225).1.cls ∈ lw_g := w_105
theorem cm_225 : Cond.instanceMethod (mt 225).1 ∈ lw_g := w_1965
theorem cs_225 : Cond.selects (mt 225).1.cls (mt 225).1 (mt 225).1 ∈ lw_g := w_67
theorem cd_225 : (mt 225).1.cls ≠ "java/lang/invoke/MethodHandle" ∧ (mt 225).1.cls ≠ "java/lang/invoke/VarHandle" ∧ (parseMethodDescriptor (mt 225).1.desc).map (fun d => d.parameters.length) = some 2 := ⟨by decide +kernel, by decide +kernel, by decide +kernel⟩
theorem cl_225 : (mt 225).2.2.1 ≤ 45 := by decide
theorem cz_226 : (mt 226).2.2.2.2 = [] := rfl
theorem cc_226 : Cond.code (mt 226).1 (mt 226).2.1 (mt 226).2.2.1 (mt 226).2.2.2.1 ∈ lw_g := mG 2067 (by decide +kernel) rfl
theorem ci_226 : Cond.initialized (mt 226).1.cls ∈ lw_g := w_105
theorem cm_226 : Cond.instanceMethod (mt 226).1 ∈ lw_g := w_2066
theorem cs_226 : Cond.selects (mt 226).1.cls (mt 226).1 (mt 226).1 ∈ lw_g := w_80
theorem cd_226 : (mt 226).1.cls ≠ "java/lang/invoke/MethodHandle" ∧ (mt 226).1.cls ≠ "java/lang/invoke/VarHandle" ∧ (parseMethodDescriptor (mt 226).1.desc).map (fun d => d.parameters.length) = some 0 := ⟨by decide +kernel, by decide +kernel, by decide +kernel⟩
theorem cl_226 : (mt 226).2.2.1 ≤ 45 := by decide
theorem cz_229 : (mt 229).2.2.2.2 = [] := rfl
theorem cc_229 : Cond.code (mt 229).1 (mt 229).2.1 (mt 229).2.2.1 (mt 229).2.2.2.1 ∈ lw_g := mG 1675 (by decide +kernel) rfl
theorem ci_229 : Cond.initialized (mt 229).1.cls ∈ lw_g := w_96
theorem cm_229 : Cond.instanceMethod (mt 229).1 ∈ lw_g := w_1674
theorem cs_229 : Cond.selects (mt 229).1.cls (mt 229).1 (mt 229).1 ∈ lw_g := w_37
theorem cd_229 : (mt 229).1.cls ≠ "java/lang/invoke/MethodHandle" ∧ (mt 229).1.cls ≠ "java/lang/invoke/VarHandle" ∧ (parseMethodDescriptor (mt 229).1.desc).map (fun d => d.parameters.length) = some 1 := ⟨by decide +kernel, by decide +kernel, by decide +kernel⟩
theorem cl_229 : (mt 229).2.2.1 ≤ 45 := by decide
theorem cz_230 : (mt 230).2.2.2.2 = [] := rfl
theorem cc_230 : Cond.code (mt 230).1 (mt 230).2.1 (mt 230).2.2.1 (mt 230).2.2.2.1 ∈ lw_g := mG 1686 (by decide +kernel) rfl
theorem ci_230 : Cond.initialized (mt 230).1.cls ∈ lw_g := w_96
theorem cm_230 : Cond.static (mt 230).1 ∈ lw_g := w_1685
theorem cd_230 : (mt 230).1.cls ≠ "java/lang/invoke/MethodHandle" ∧ (mt 230).1.cls ≠ "java/lang/invoke/VarHandle" ∧ (parseMethodDescriptor (mt 230).1.desc).map (fun d => d.parameters.length) = some 3 := ⟨by decide +kernel, by decide +kernel, by decide +kernel⟩
theorem cl_230 : (mt 230).2.2.1 ≤ 45 := by decide
theorem cz_231 : (mt 231).2.2.2.2 = [] := rfl
theorem cc_231 : Cond.code (mt 231).1 (mt 231).2.1 (mt 231).2.2.1 (mt 231).2.2.2.1 ∈ lw_g := mG 1755 (by decide +kernel) rfl
theorem ci_231 : Cond.initialized (mt 231).1.cls ∈ lw_g := w_96
theorem cm_231 : Cond.static (mt 231).1 ∈ lw_g := w_1754
theorem cd_231 : (mt 231).1.cls ≠ "java/lang/invoke/MethodHandle" ∧ (mt 231).1.cls ≠ "java/lang/invoke/VarHandle" ∧ (parseMethodDescriptor (mt 231).1.desc).map (fun d => d.parameters.length) = some 2 := ⟨by decide +kernel, by decide +kernel, by decide +kernel⟩
theorem cl_231 : (mt 231).2.2.1 ≤ 45 := by decide
theorem cz_232 : (mt 232).2.2.2.2 = [] := rfl
theorem cc_232 : Cond.code (mt 232).1 (mt 232).2.1 (mt 232).2.2.1 (mt 232).2.2.2.1 ∈ lw_g := mG 1689 (by decide +kernel) rfl
theorem ci_232 : Cond.initialized (mt 232).1.cls ∈ lw_g := w_96
theorem cm_232 : Cond.static (mt 232).1 ∈ lw_g := w_1688
theorem cd_232 : (mt 232).1.cls ≠ "java/lang/invoke/MethodHandle" ∧ (mt 232).1.cls ≠ "java/lang/invoke/VarHandle" ∧ (parseMethodDescriptor (mt 232).1.desc).map (fun d => d.parameters.length) = some 1 := ⟨by decide +kernel, by decide +kernel, by decide +kernel⟩
theorem cl_232 : (mt 232).2.2.1 ≤ 45 := by decide
theorem cz_233 : (mt 233).2.2.2.2 = [] := rfl
theorem cc_233 : Cond.code (mt 233).1 (mt 233).2.1 (mt 233).2.2.1 (mt 233).2.2.2.1 ∈ lw_g := mG 1683 (by decide +kernel) rfl
theorem ci_233 : Cond.initialized (mt 233).1.cls ∈ lw_g := w_96
theorem cm_233 : Cond.instanceMethod (mt 233).1 ∈ lw_g := w_1682
theorem cs_233 : Cond.selects (mt 233).1.cls (mt 233).1 (mt 233).1 ∈ lw_g := w_38
theorem cd_233 : (mt 233).1.cls ≠ "java/lang/invoke/MethodHandle" ∧ (mt 233).1.cls ≠ "java/lang/invoke/VarHandle" ∧ (parseMethodDescriptor (mt 233).1.desc).map (fun d => d.parameters.length) = some 1 := ⟨by decide +kernel, by decide +kernel, by decide +kernel⟩
theorem cl_233 : (mt 233).2.2.1 ≤ 45 := by decide
theorem cz_234 : (mt 234).2.2.2.2 = [] := rfl
theorem cc_234 : Cond.code (mt 234).1 (mt 234).2.1 (mt 234).2.2.1 (mt 234).2.2.2.1 ∈ lw_g := mG 1697 (by decide +kernel) rfl
theorem ci_234 : Cond.initialized (mt 234).1.cls ∈ lw_g := w_96
theorem cm_234 : Cond.instanceMethod (mt 234).1 ∈ lw_g := w_1696
theorem cs_234 : Cond.selects (mt 234).1.cls (mt 234).1 (mt 234).1 ∈ lw_g := w_39
theorem cd_234 : (mt 234).1.cls ≠ "java/lang/invoke/MethodHandle" ∧ (mt 234).1.cls ≠ "java/lang/invoke/VarHandle" ∧ (parseMethodDescriptor (mt 234).1.desc).map (fun d => d.parameters.length) = some 1 := ⟨by decide +kernel, by decide +kernel, by decide +kernel⟩
theorem cl_234 : (mt 234).2.2.1 ≤ 45 := by decide
theorem cz_235 : (mt 235).2.2.2.2 = [] := rfl
theorem cc_235 : Cond.code (mt 235).1 (mt 235).2.1 (mt 235).2.2.1 (mt 235).2.2.2.1 ∈ lw_g := mG 1708 (by decide +kernel) rfl
theorem ci_235 : Cond.initialized (mt 235).1.cls ∈ lw_g := w_96
theorem cm_235 : Cond.static (mt 235).1 ∈ lw_g := w_1707
theorem cd_235 : (mt 235).1.cls ≠ "java/lang/invoke/MethodHandle" ∧ (mt 235).1.cls ≠ "java/lang/invoke/VarHandle" ∧ (parseMethodDescriptor (mt 235).1.desc).map (fun d => d.parameters.length) = some 1 := ⟨by decide +kernel, by decide +kernel, by decide +kernel⟩
theorem cl_235 : (mt 235).2.2.1 ≤ 45 := by decide
theorem cz_238 : (mt 238).2.2.2.2 = [] := rfl
theorem cc_238 : Cond.code (mt 238).1 (mt 238).2.1 (mt 238).2.2.1 (mt 238).2.2.2.1 ∈ lw_g := mG 1701 (by decide +kernel) rfl
theorem ci_238 : Cond.initialized (mt 238).1.cls ∈ lw_g := w_96
theorem cm_238 : Cond.instanceMethod (mt 238).1 ∈ lw_g := w_1700
theorem cs_238 : Cond.selects (mt 238).1.cls (mt 238).1 (mt 238).1 ∈ lw_g := w_40
theorem cd_238 : (mt 238).1.cls ≠ "java/lang/invoke/MethodHandle" ∧ (mt 238).1.cls ≠ "java/lang/invoke/VarHandle" ∧ (parseMethodDescriptor (mt 238).1.desc).map (fun d => d.parameters.length) = some 5 := ⟨by decide +kernel, by decide +kernel, by decide +kernel⟩
theorem cl_238 : (mt 238).2.2.1 ≤ 45 := by decide
theorem cz_242 : (mt 242).2.2.2.2 = [] := rfl
theorem cc_242 : Cond.code (mt 242).1 (mt 242).2.1 (mt 242).2.2.1 (mt 242).2.2.2.1 ∈ lw_g := mG 1720 (by decide +kernel) rfl
theorem ci_242 : Cond.initialized (mt 242).1.cls ∈ lw_g := w_96
theorem cm_242 : Cond.instanceMethod (mt 242).1 ∈ lw_g := w_1719
theorem cs_242 : Cond.selects (mt 242).1.cls (mt 242).1 (mt 242).1 ∈ lw_g := w_41
theorem cd_242 : (mt 242).1.cls ≠ "java/lang/invoke/MethodHandle" ∧ (mt 242).1.cls ≠ "java/lang/invoke/VarHandle" ∧ (parseMethodDescriptor (mt 242).1.desc).map (fun d => d.parameters.length) = some 6 := ⟨by decide +kernel, by decide +kernel, by decide +kernel⟩
theorem cl_242 : (mt 242).2.2.1 ≤ 45 := by decide
theorem cz_244 : (mt 244).2.2.2.2 = [] := rfl
theorem cc_244 : Cond.code (mt 244).1 (mt 244).2.1 (mt 244).2.2.1 (mt 244).2.2.2.1 ∈ lw_g := mG 1728 (by decide +kernel) rfl
theorem ci_244 : Cond.initialized (mt 244).1.cls ∈ lw_g := w_96
theorem cm_244 : Cond.instanceMethod (mt 244).1 ∈ lw_g := w_1727
theorem cs_244 : Cond.selects (mt 244).1.cls (mt 244).1 (mt 244).1 ∈ lw_g := w_42
theorem cd_244 : (mt 244).1.cls ≠ "java/lang/invoke/MethodHandle" ∧ (mt 244).1.cls ≠ "java/lang/invoke/VarHandle" ∧ (parseMethodDescriptor (mt 244).1.desc).map (fun d => d.parameters.length) = some 1 := ⟨by decide +kernel, by decide +kernel, by decide +kernel⟩
theorem cl_244 : (mt 244).2.2.1 ≤ 45 := by decide
theorem cz_246 : (mt 246).2.2.2.2 = [] := rfl
theorem cc_246 : Cond.code (mt 246).1 (mt 246).2.1 (mt 246).2.2.1 (mt 246).2.2.2.1 ∈ lw_g := mG 1752 (by decide +kernel) rfl
theorem ci_246 : Cond.initialized (mt 246).1.cls ∈ lw_g := w_96
theorem cm_246 : Cond.instanceMethod (mt 246).1 ∈ lw_g := w_1751
theorem cs_246 : Cond.selects (mt 246).1.cls (mt 246).1 (mt 246).1 ∈ lw_g := w_45
theorem cd_246 : (mt 246).1.cls ≠ "java/lang/invoke/MethodHandle" ∧ (mt 246).1.cls ≠ "java/lang/invoke/VarHandle" ∧ (parseMethodDescriptor (mt 246).1.desc).map (fun d => d.parameters.length) = some 1 := ⟨by decide +kernel, by decide +kernel, by decide +kernel⟩
theorem cl_246 : (mt 246).2.2.1 ≤ 45 := by decide
theorem cz_249 : (mt 249).2.2.2.2 = [] := rfl
theorem cc_249 : Cond.code (mt 249).1 (mt 249).2.1 (mt 249).2.2.1 (mt 249).2.2.2.1 ∈ lw_g := mG 1748 (by decide +kernel) rfl
theorem ci_249 : Cond.initialized (mt 249).1.cls ∈ lw_g := w_96
theorem cm_249 : Cond.instanceMethod (mt 249).1 ∈ lw_g := w_1747
theorem cs_249 : Cond.selects (mt 249).1.cls (mt 249).1 (mt 249).1 ∈ lw_g := w_44
theorem cd_249 : (mt 249).1.cls ≠ "java/lang/invoke/MethodHandle" ∧ (mt 249).1.cls ≠ "java/lang/invoke/VarHandle" ∧ (parseMethodDescriptor (mt 249).1.desc).map (fun d => d.parameters.length) = some 1 := ⟨by decide +kernel, by decide +kernel, by decide +kernel⟩
theorem cl_249 : (mt 249).2.2.1 ≤ 45 := by decide
theorem cz_250 : (mt 250).2.2.2.2 = [] := rfl
theorem cc_250 : Cond.code (mt 250).1 (mt 250).2.1 (mt 250).2.2.1 (mt 250).2.2.2.1 ∈ lw_g := mG 1744 (by decide +kernel) rfl
theorem ci_250 : Cond.initialized (mt 250).1.cls ∈ lw_g := w_96
theorem cm_250 : Cond.instanceMethod (mt 250).1 ∈ lw_g := w_1743
theorem cs_250 : Cond.selects (mt 250).1.cls (mt 250).1 (mt 250).1 ∈ lw_g := w_43
theorem cd_250 : (mt 250).1.cls ≠ "java/lang/invoke/MethodHandle" ∧ (mt 250).1.cls ≠ "java/lang/invoke/VarHandle" ∧ (parseMethodDescriptor (mt 250).1.desc).map (fun d => d.parameters.length) = some 2 := ⟨by decide +kernel, by decide +kernel, by decide +kernel⟩
theorem cl_250 : (mt 250).2.2.1 ≤ 45 := by decide
theorem cz_254 : (mt 254).2.2.2.2 = [] := rfl
theorem cc_254 : Cond.code (mt 254).1 (mt 254).2.1 (mt 254).2.2.1 (mt 254).2.2.2.1 ∈ lw_g := mG 1954 (by decide +kernel) rfl
theorem ci_254 : Cond.initialized (mt 254).1.cls ∈ lw_g := w_96
theorem cm_254 : Cond.instanceMethod (mt 254).1 ∈ lw_g := w_1953
theorem cs_254 : Cond.selects (mt 254).1.cls (mt 254).1 (mt 254).1 ∈ lw_g := w_65
theorem cd_254 : (mt 254).1.cls ≠ "java/lang/invoke/MethodHandle" ∧ (mt 254).1.cls ≠ "java/lang/invoke/VarHandle" ∧ (parseMethodDescriptor (mt 254).1.desc).map (fun d => d.parameters.length) = some 2 := ⟨by decide +kernel, by decide +kernel, by decide +kernel⟩
theorem cl_254 : (mt 254).2.2.1 ≤ 45 := by decide
theorem cz_256 : (mt 256).2.2.2.2 = [] := rfl
theorem cc_256 : Cond.code (mt 256).1 (mt 256).2.1 (mt 256).2.2.1 (mt 256).2.2.2.1 ∈ lw_g := mG 1962 (by decide +kernel) rfl
theorem ci_256 : Cond.initialized (mt 256).1.cls ∈ lw_g := w_96
theorem cm_256 : Cond.instanceMethod (mt 256).1 ∈ lw_g := w_1961
theorem cs_256 : Cond.selects (mt 256).1.cls (mt 256).1 (mt 256).1 ∈ lw_g := w_66
theorem cd_256 : (mt 256).1.cls ≠ "java/lang/invoke/MethodHandle" ∧ (mt 256).1.cls ≠ "java/lang/invoke/VarHandle" ∧ (parseMethodDescriptor (mt 256).1.desc).map (fun d => d.parameters.length) = some 2 := ⟨by decide +kernel, by decide +kernel, by decide +kernel⟩
theorem cl_256 : (mt 256).2.2.1 ≤ 45 := by decide
theorem cz_260 : (mt 260).2.2.2.2 = [] := rfl
theorem cc_260 : Cond.code (mt 260).1 (mt 260).2.1 (mt 260).2.2.1 (mt 260).2.2.2.1 ∈ lw_g := mG 1986 (by decide +kernel) rfl
theorem ci_260 : Cond.initialized (mt 260).1.cls ∈ lw_g := w_96
theorem cm_260 : Cond.instanceMethod (mt 260).1 ∈ lw_g := w_1985
theorem cs_260 : Cond.selects (mt 260).1.cls (mt 260).1 (mt 260).1 ∈ lw_g := w_68
theorem cd_260 : (mt 260).1.cls ≠ "java/lang/invoke/MethodHandle" ∧ (mt 260).1.cls ≠ "java/lang/invoke/VarHandle" ∧ (parseMethodDescriptor (mt 260).1.desc).map (fun d => d.parameters.length) = some 1 := ⟨by decide +kernel, by decide +kernel, by decide +kernel⟩
theorem cl_260 : (mt 260).2.2.1 ≤ 45 := by decide
theorem cz_261 : (mt 261).2.2.2.2 = [] := rfl
theorem cc_261 : Cond.code (mt 261).1 (mt 261).2.1 (mt 261).2.2.1 (mt 261).2.2.2.1 ∈ lw_g := mG 2001 (by decide +kernel) rfl
theorem ci_261 : Cond.initialized (mt 261).1.cls ∈ lw_g := w_96
theorem cm_261 : Cond.instanceMethod (mt 261).1 ∈ lw_g := w_2000
theorem cs_261 : Cond.selects (mt 261).1.cls (mt 261).1 (mt 261).1 ∈ lw_g := w_70
theorem cd_261 : (mt 261).1.cls ≠ "java/lang/invoke/MethodHandle" ∧ (mt 261).1.cls ≠ "java/lang/invoke/VarHandle" ∧ (parseMethodDescriptor (mt 261).1.desc).map (fun d => d.parameters.length) = some 1 := ⟨by decide +kernel, by decide +kernel, by decide +kernel⟩
theorem cl_261 : (mt 261).2.2.1 ≤ 45 := by decide
theorem cz_263 : (mt 263).2.2.2.2 = [] := rfl
theorem cc_263 : Cond.code (mt 263).1 (mt 263).2.1 (mt 263).2.2.1 (mt 263).2.2.2.1 ∈ lw_g := mG 1996 (by decide +kernel) rfl
theorem ci_263 : Cond.initialized (mt 263).1.cls ∈ lw_g := w_96
theorem cm_263 : Cond.static (mt 263).1 ∈ lw_g := w_1995
theorem cd_263 : (mt 263).1.cls ≠ "java/lang/invoke/MethodHandle" ∧ (mt 263).1.cls ≠ "java/lang/invoke/VarHandle" ∧ (parseMethodDescriptor (mt 263).1.desc).map (fun d => d.parameters.length) = some 2 := ⟨by decide +kernel, by decide +kernel, by decide +kernel⟩
theorem cl_263 : (mt 263).2.2.1 ≤ 45 := by decide
theorem cz_264 : (mt 264).2.2.2.2 = [] := rfl
theorem cc_264 : Cond.code (mt 264).1 (mt 264).2.1 (mt 264).2.2.1 (mt 264).2.2.2.1 ∈ lw_g := mG 1993 (by decide +kernel) rfl
theorem ci_264 : Cond.initialized (mt 264).1.cls ∈ lw_g := w_96
theorem cm_264 : Cond.static (mt 264).1 ∈ lw_g := w_1992
theorem cd_264 : (mt 264).1.cls ≠ "java/lang/invoke/MethodHandle" ∧ (mt 264).1.cls ≠ "java/lang/invoke/VarHandle" ∧ (parseMethodDescriptor (mt 264).1.desc).map (fun d => d.parameters.length) = some 2 := ⟨by decide +kernel, by decide +kernel, by decide +kernel⟩
theorem cl_264 : (mt 264).2.2.1 ≤ 45 := by decide
theorem cz_265 : (mt 265).2.2.2.2 = [] := rfl
theorem cc_265 : Cond.code (mt 265).1 (mt 265).2.1 (mt 265).2.2.1 (mt 265).2.2.2.1 ∈ lw_g := mG 2020 (by decide +kernel) rfl
theorem ci_265 : Cond.initialized (mt 265).1.cls ∈ lw_g := w_96
theorem cm_265 : Cond.static (mt 265).1 ∈ lw_g := w_2019
theorem cd_265 : (mt 265).1.cls ≠ "java/lang/invoke/MethodHandle" ∧ (mt 265).1.cls ≠ "java/lang/invoke/VarHandle" ∧ (parseMethodDescriptor (mt 265).1.desc).map (fun d => d.parameters.length) = some 2 := ⟨by decide +kernel, by decide +kernel, by decide +kernel⟩
theorem cl_265 : (mt 265).2.2.1 ≤ 45 := by decide
theorem cz_266 : (mt 266).2.2.2.2 = [] := rfl
theorem cc_266 : Cond.code (mt 266).1 (mt 266).2.1 (mt 266).2.2.1 (mt 266).2.2.2.1 ∈ lw_g := mG 1990 (by decide +kernel) rfl
theorem ci_266 : Cond.initialized (mt 266).1.cls ∈ lw_g := w_96
theorem cm_266 : Cond.instanceMethod (mt 266).1 ∈ lw_g := w_1989
theorem cs_266 : Cond.selects (mt 266).1.cls (mt 266).1 (mt 266).1 ∈ lw_g := w_69
theorem cd_266 : (mt 266).1.cls ≠ "java/lang/invoke/MethodHandle" ∧ (mt 266).1.cls ≠ "java/lang/invoke/VarHandle" ∧ (parseMethodDescriptor (mt 266).1.desc).map (fun d => d.parameters.length) = some 1 := ⟨by decide +kernel, by decide +kernel, by decide +kernel⟩
theorem cl_266 : (mt 266).2.2.1 ≤ 45 := by decide
theorem cz_267 : (mt 267).2.2.2.2 = [] := rfl
theorem cc_267 : Cond.code (mt 267).1 (mt 267).2.1 (mt 267).2.2.1 (mt 267).2.2.2.1 ∈ lw_g := mG 2005 (by decide +kernel) rfl
theorem ci_267 : Cond.initialized (mt 267).1.cls ∈ lw_g := w_96
theorem cm_267 : Cond.instanceMethod (mt 267).1 ∈ lw_g := w_2004
theorem cs_267 : Cond.selects (mt 267).1.cls (mt 267).1 (mt 267).1 ∈ lw_g := w_71
theorem cd_267 : (mt 267).1.cls ≠ "java/lang/invoke/MethodHandle" ∧ (mt 267).1.cls ≠ "java/lang/invoke/VarHandle" ∧ (parseMethodDescriptor (mt 267).1.desc).map (fun d => d.parameters.length) = some 0 := ⟨by decide +kernel, by decide +kernel, by decide +kernel⟩
theorem cl_267 : (mt 267).2.2.1 ≤ 45 := by decide
theorem cz_268 : (mt 268).2.2.2.2 = [] := rfl
theorem cc_268 : Cond.code (mt 268).1 (mt 268).2.1 (mt 268).2.2.1 (mt 268).2.2.2.1 ∈ lw_g := mG 2009 (by decide +kernel) rfl
theorem ci_268 : Cond.initialized (mt 268).1.cls ∈ lw_g := w_96
theorem cm_268 : Cond.instanceMethod (mt 268).1 ∈ lw_g := w_2008
theorem cs_268 : Cond.selects (mt 268).1.cls (mt 268).1 (mt 268).1 ∈ lw_g := w_72
theorem cd_268 : (mt 268).1.cls ≠ "java/lang/invoke/MethodHandle" ∧ (mt 268).1.cls ≠ "java/lang/invoke/VarHandle" ∧ (parseMethodDescriptor (mt 268).1.desc).map (fun d => d.parameters.length) = some 3 := ⟨by decide +kernel, by decide +kernel, by decide +kernel⟩
theorem cl_268 : (mt 268).2.2.1 ≤ 45 := by decide
theorem cz_270 : (mt 270).2.2.2.2 = [] := rfl
theorem cc_270 : Cond.code (mt 270).1 (mt 270).2.1 (mt 270).2.2.1 (mt 270).2.2.2.1 ∈ lw_g := mG 2017 (by decide +kernel) rfl
theorem ci_270 : Cond.initialized (mt 270).1.cls ∈ lw_g := w_96
theorem cm_270 : Cond.instanceMethod (mt 270).1 ∈ lw_g := w_2016
theorem cs_270 : Cond.selects (mt 270).1.cls (mt 270).1 (mt 270).1 ∈ lw_g := w_73
theorem cd_270 : (mt 270).1.cls ≠ "java/lang/invoke/MethodHandle" ∧ (mt 270).1.cls ≠ "java/lang/invoke/VarHandle" ∧ (parseMethodDescriptor (mt 270).1.desc).map (fun d => d.parameters.length) = some 1 := ⟨by decide +kernel, by decide +kernel, by decide +kernel⟩
theorem cl_270 : (mt 270).2.2.1 ≤ 45 := by decide
theorem cz_272 : (mt 272).2.2.2.2 = [] := rfl
theorem cc_272 : Cond.code (mt 272).1 (mt 272).2.1 (mt 272).2.2.1 (mt 272).2.2.2.1 ∈ lw_g := mG 2032 (by decide +kernel) rfl
theorem ci_272 : Cond.initialized (mt 272).1.cls ∈ lw_g := w_96
theorem cm_272 : Cond.instanceMethod (mt 272).1 ∈ lw_g := w_2031
theorem cs_272 : Cond.selects (mt 272).1.cls (mt 272).1 (mt 272).1 ∈ lw_g := w_75
theorem cd_272 : (mt 272).1.cls ≠ "java/lang/invoke/MethodHandle" ∧ (mt 272).1.cls ≠ "java/lang/invoke/VarHandle" ∧ (parseMethodDescriptor (mt 272).1.desc).map (fun d => d.parameters.length) = some 2 := ⟨by decide +kernel, by decide +kernel, by decide +kernel⟩
theorem cl_272 : (mt 272).2.2.1 ≤ 45 := by decide
theorem cz_273 : (mt 273).2.2.2.2 = [] := rfl
theorem cc_273 : Cond.code (mt 273).1 (mt 273).2.1 (mt 273).2.2.1 (mt 273).2.2.2.1 ∈ lw_g := mG 2028 (by decide +kernel) rfl
theorem ci_273 : Cond.initialized (mt 273).1.cls ∈ lw_g := w_96
theorem cm_273 : Cond.instanceMethod (mt 273).1 ∈ lw_g := w_2027
theorem cs_273 : Cond.selects (mt 273).1.cls (mt 273).1 (mt 273).1 ∈ lw_g := w_74
theorem cd_273 : (mt 273).1.cls ≠ "java/lang/invoke/MethodHandle" ∧ (mt 273).1.cls ≠ "java/lang/invoke/VarHandle" ∧ (parseMethodDescriptor (mt 273).1.desc).map (fun d => d.parameters.length) = some 2 := ⟨by decide +kernel, by decide +kernel, by decide +kernel⟩
theorem cl_273 : (mt 273).2.2.1 ≤ 45 := by decide
theorem cz_275 : (mt 275).2.2.2.2 = [] := rfl
theorem cc_275 : Cond.code (mt 275).1 (mt 275).2.1 (mt 275).2.2.1 (mt 275).2.2.2.1 ∈ lw_g := mG 2040 (by decide +kernel) rfl
theorem ci_275 : Cond.initialized (mt 275).1.cls ∈ lw_g := w_96
theorem cm_275 : Cond.instanceMethod (mt 275).1 ∈ lw_g := w_2039
theorem cs_275 : Cond.selects (mt 275).1.cls (mt 275).1 (mt 275).1 ∈ lw_g := w_76
theorem cd_275 : (mt 275).1.cls ≠ "java/lang/invoke/MethodHandle" ∧ (mt 275).1.cls ≠ "java/lang/invoke/VarHandle" ∧ (parseMethodDescriptor (mt 275).1.desc).map (fun d => d.parameters.length) = some 3 := ⟨by decide +kernel, by decide +kernel, by decide +kernel⟩
theorem cl_275 : (mt 275).2.2.1 ≤ 45 := by decide
theorem cz_277 : (mt 277).2.2.2.2 = [] := rfl
theorem cc_277 : Cond.code (mt 277).1 (mt 277).2.1 (mt 277).2.2.1 (mt 277).2.2.2.1 ∈ lw_g := mG 2052 (by decide +kernel) rfl
theorem ci_277 : Cond.initialized (mt 277).1.cls ∈ lw_g := w_96
theorem cm_277 : Cond.instanceMethod (mt 277).1 ∈ lw_g := w_2051
theorem cs_277 : Cond.selects (mt 277).1.cls (mt 277).1 (mt 277).1 ∈ lw_g := w_78
theorem cd_277 : (mt 277).1.cls ≠ "java/lang/invoke/MethodHandle" ∧ (mt 277).1.cls ≠ "java/lang/invoke/VarHandle" ∧ (parseMethodDescriptor (mt 277).1.desc).map (fun d => d.parameters.length) = some 1 := ⟨by decide +kernel, by decide +kernel, by decide +kernel⟩
theorem cl_277 : (mt 277).2.2.1 ≤ 45 := by decide
theorem cz_278 : (mt 278).2.2.2.2 = [] := rfl
theorem cc_278 : Cond.code (mt 278).1 (mt 278).2.1 (mt 278).2.2.1 (mt 278).2.2.2.1 ∈ lw_g := mG 2055 (by decide +kernel) rfl
theorem ci_278 : Cond.initialized (mt 278).1.cls ∈ lw_g := w_96
theorem cm_278 : Cond.static (mt 278).1 ∈ lw_g := w_2054
theorem cd_278 : (mt 278).1.cls ≠ "java/lang/invoke/MethodHandle" ∧ (mt 278).1.cls ≠ "java/lang/invoke/VarHandle" ∧ (parseMethodDescriptor (mt 278).1.desc).map (fun d => d.parameters.length) = some 1 := ⟨by decide +kernel, by decide +kernel, by decide +kernel⟩
theorem cl_278 : (mt 278).2.2.1 ≤ 45 := by decide
theorem cz_279 : (mt 279).2.2.2.2 = [] := rfl
theorem cc_279 : Cond.code (mt 279).1 (mt 279).2.1 (mt 279).2.2.1 (mt 279).2.2.2.1 ∈ lw_g := mG 2048 (by decide +kernel) rfl
theorem ci_279 : Cond.initialized (mt 279).1.cls ∈ lw_g := w_96
theorem cm_279 : Cond.instanceMethod (mt 279).1 ∈ lw_g := w_2047
theorem cs_279 : Cond.selects (mt 279).1.cls (mt 279).1 (mt 279).1 ∈ lw_g := w_77
theorem cd_279 : (mt 279).1.cls ≠ "java/lang/invoke/MethodHandle" ∧ (mt 279).1.cls ≠ "java/lang/invoke/VarHandle" ∧ (parseMethodDescriptor (mt 279).1.desc).map (fun d => d.parameters.length) = some 2 := ⟨by decide +kernel, by decide +kernel, by decide +kernel⟩
theorem cl_279 : (mt 279).2.2.1 ≤ 45 := by decide
theorem cz_281 : (mt 281).2.2.2.2 = [] := rfl
theorem cc_281 : Cond.code (mt 281).1 (mt 281).2.1 (mt 281).2.2.1 (mt 281).2.2.2.1 ∈ lw_g := mG 2063 (by decide +kernel) rfl
theorem ci_281 : Cond.initialized (mt 281).1.cls ∈ lw_g := w_96
theorem cm_281 : Cond.instanceMethod (mt 281).1 ∈ lw_g := w_2062
theorem cs_281 : Cond.selects (mt 281).1.cls (mt 281).1 (mt 281).1 ∈ lw_g := w_79
theorem cd_281 : (mt 281).1.cls ≠ "java/lang/invoke/MethodHandle" ∧ (mt 281).1.cls ≠ "java/lang/invoke/VarHandle" ∧ (parseMethodDescriptor (mt 281).1.desc).map (fun d => d.parameters.length) = some 1 := ⟨by decide +kernel, by decide +kernel, by decide +kernel⟩
theorem cl_281 : (mt 281).2.2.1 ≤ 45 := by decide
theorem cz_287 : (mt 287).2.2.2.2 = [] := rfl
theorem cc_287 : Cond.code (mt 287).1 (mt 287).2.1 (mt 287).2.2.1 (mt 287).2.2.2.1 ∈ lw_g := mG 2095 (by decide +kernel) rfl
theorem ci_287 : Cond.initialized (mt 287).1.cls ∈ lw_g := w_96
theorem cm_287 : Cond.instanceMethod (mt 287).1 ∈ lw_g := w_2094
theorem cs_287 : Cond.selects (mt 287).1.cls (mt 287).1 (mt 287).1 ∈ lw_g := w_82
theorem cd_287 : (mt 287).1.cls ≠ "java/lang/invoke/MethodHandle" ∧ (mt 287).1.cls ≠ "java/lang/invoke/VarHandle" ∧ (parseMethodDescriptor (mt 287).1.desc).map (fun d => d.parameters.length) = some 2 := ⟨by decide +kernel, by decide +kernel, by decide +kernel⟩
theorem cl_287 : (mt 287).2.2.1 ≤ 45 := by decide
theorem cz_290 : (mt 290).2.2.2.2 = [] := rfl
theorem cc_290 : Cond.code (mt 290).1 (mt 290).2.1 (mt 290).2.2.1 (mt 290).2.2.2.1 ∈ lw_g := mG 568 (by decide +kernel) rfl
theorem ci_290 : Cond.initialized (mt 290).1.cls ∈ lw_g := w_103
theorem cm_290 : Cond.static (mt 290).1 ∈ lw_g := w_567
theorem cd_290 : (mt 290).1.cls ≠ "java/lang/invoke/MethodHandle" ∧ (mt 290).1.cls ≠ "java/lang/invoke/VarHandle" ∧ (parseMethodDescriptor (mt 290).1.desc).map (fun d => d.parameters.length) = some 1 := ⟨by decide +kernel, by decide +kernel, by decide +kernel⟩
theorem cl_290 : (mt 290).2.2.1 ≤ 45 := by decide
theorem cz_291 : (mt 291).2.2.2.2 = [] := rfl
theorem cc_291 : Cond.code (mt 291).1 (mt 291).2.1 (mt 291).2.2.1 (mt 291).2.2.2.1 ∈ lw_g := mG 1199 (by decide +kernel) rfl
theorem ci_291 : Cond.initialized (mt 291).1.cls ∈ lw_g := w_104
theorem cm_291 : Cond.static (mt 291).1 ∈ lw_g := w_1198
theorem cd_291 : (mt 291).1.cls ≠ "java/lang/invoke/MethodHandle" ∧ (mt 291).1.cls ≠ "java/lang/invoke/VarHandle" ∧ (parseMethodDescriptor (mt 291).1.desc).map (fun d => d.parameters.length) = some 1 := ⟨by decide +kernel, by decide +kernel, by decide +kernel⟩
theorem cl_291 : (mt 291).2.2.1 ≤ 45 := by decide
theorem cz_292 : (mt 292).2.2.2.2 = [] := rfl
theorem cc_292 : Cond.code (mt 292).1 (mt 292).2.1 (mt 292).2.2.1 (mt 292).2.2.2.1 ∈ lw_g := mG 1043 (by decide +kernel) rfl
theorem ci_292 : Cond.initialized (mt 292).1.cls ∈ lw_g := w_104
theorem cm_292 : Cond.static (mt 292).1 ∈ lw_g := w_1042
theorem cd_292 : (mt 292).1.cls ≠ "java/lang/invoke/MethodHandle" ∧ (mt 292).1.cls ≠ "java/lang/invoke/VarHandle" ∧ (parseMethodDescriptor (mt 292).1.desc).map (fun d => d.parameters.length) = some 2 := ⟨by decide +kernel, by decide +kernel, by decide +kernel⟩
theorem cl_292 : (mt 292).2.2.1 ≤ 45 := by decide
def exNames : List String := ["java/lang/RuntimeException", "java/lang/Exception"]
theorem exNames_ok : ∀ n ∈ exNames, Bundle.fit n = true := by decide +kernel
theorem ex_X11_71 : ∀ w ∈ vx_atS "LinkHarbour" 71 "java/lang/IllegalStateException" exNames, w ∈ lw_g ∨ w ∈ lw_n := by decide +kernel
theorem ex_X11_71_ot (ik : Nat) : ∀ w ∈ Cond.classLink "LinkHarbour" ik "java/lang/IllegalStateException" :: Cond.initialized "java/lang/IllegalStateException" :: vx_atS "LinkHarbour" 71 "java/lang/IllegalStateException" exNames, vx_ot w = true := List.forall_mem_cons.mpr ⟨rfl, by decide +kernel⟩
theorem ex_X11_86 : ∀ w ∈ vx_atS "LinkHarbour" 86 "java/lang/IndexOutOfBoundsException" exNames, w ∈ lw_g ∨ w ∈ lw_n := by decide +kernel
theorem ex_X11_86_ot (ik : Nat) : ∀ w ∈ Cond.classLink "LinkHarbour" ik "java/lang/IndexOutOfBoundsException" :: Cond.initialized "java/lang/IndexOutOfBoundsException" :: vx_atS "LinkHarbour" 86 "java/lang/IndexOutOfBoundsException" exNames, vx_ot w = true := List.forall_mem_cons.mpr ⟨rfl, by decide +kernel⟩
theorem ex_X11_94 : ∀ w ∈ vx_atS "LinkHarbour" 94 "java/lang/IllegalArgumentException" exNames, w ∈ lw_g ∨ w ∈ lw_n := by decide +kernel
theorem ex_X11_94_ot (ik : Nat) : ∀ w ∈ Cond.classLink "LinkHarbour" ik "java/lang/IllegalArgumentException" :: Cond.initialized "java/lang/IllegalArgumentException" :: vx_atS "LinkHarbour" 94 "java/lang/IllegalArgumentException" exNames, vx_ot w = true := List.forall_mem_cons.mpr ⟨rfl, by decide +kernel⟩
