/-! the tables' words, one by one (printed by wip/gen/gall.py) -/
theorem cb_i1 (i : Nat) {w : Cond} (h : tables_1_1[i]? = some w) (hw : cb_ok w = true) : w ∈ cb_TB := by
  have h := List.mem_of_getElem? h
  exact List.mem_filter.mpr ⟨List.mem_append_right _ (List.mem_append_left _ h), hw⟩
theorem cb_i2 (i : Nat) {w : Cond} (h : tables_1_2[i]? = some w) (hw : cb_ok w = true) : w ∈ cb_TB := by
  have h := List.mem_of_getElem? h
  exact List.mem_filter.mpr ⟨List.mem_append_right _ (List.mem_append_right _ (List.mem_append_left _ h)), hw⟩
theorem cb_i3 (i : Nat) {w : Cond} (h : tables_1_3[i]? = some w) (hw : cb_ok w = true) : w ∈ cb_TB := by
  have h := List.mem_of_getElem? h
  exact List.mem_filter.mpr ⟨List.mem_append_right _ (List.mem_append_right _ (List.mem_append_right _ (List.mem_append_left _ h))), hw⟩
theorem cb_i4 (i : Nat) {w : Cond} (h : tables_1_4[i]? = some w) (hw : cb_ok w = true) : w ∈ cb_TB := by
  have h := List.mem_of_getElem? h
  exact List.mem_filter.mpr ⟨List.mem_append_right _ (List.mem_append_right _ (List.mem_append_right _ (List.mem_append_right _ (List.mem_append_left _ h)))), hw⟩
theorem cb_i5 (i : Nat) {w : Cond} (h : tables_1_5[i]? = some w) (hw : cb_ok w = true) : w ∈ cb_TB := by
  have h := List.mem_of_getElem? h
  exact List.mem_filter.mpr ⟨List.mem_append_right _ (List.mem_append_right _ (List.mem_append_right _ (List.mem_append_right _ (List.mem_append_right _ (List.mem_append_left _ h))))), hw⟩
theorem cb_i6 (i : Nat) {w : Cond} (h : tables_1_6[i]? = some w) (hw : cb_ok w = true) : w ∈ cb_TB := by
  have h := List.mem_of_getElem? h
  exact List.mem_filter.mpr ⟨List.mem_append_right _ (List.mem_append_right _ (List.mem_append_right _ (List.mem_append_right _ (List.mem_append_right _ (List.mem_append_right _ (List.mem_append_left _ h)))))), hw⟩
theorem cb_i7 (i : Nat) {w : Cond} (h : tables_1_7[i]? = some w) (hw : cb_ok w = true) : w ∈ cb_TB := by
  have h := List.mem_of_getElem? h
  exact List.mem_filter.mpr ⟨List.mem_append_right _ (List.mem_append_right _ (List.mem_append_right _ (List.mem_append_right _ (List.mem_append_right _ (List.mem_append_right _ (List.mem_append_right _ (h))))))), hw⟩
theorem cw_1 : (Jvm.Cond.initialized "CauseBook") ∈ cb_TB := cb_i1 1 rfl rfl
theorem cw_2 : (Jvm.Cond.initialized "CauseBook$Model") ∈ cb_TB := cb_i1 2 rfl rfl
theorem cw_3 : (Jvm.Cond.initialized "CauseBook$History") ∈ cb_TB := cb_i1 3 rfl rfl
theorem cw_4 : (Jvm.Cond.initialized "CauseBook$Refusals") ∈ cb_TB := cb_i1 4 rfl rfl
theorem cw_5 : (Jvm.Cond.initialized "CauseBook$Roll") ∈ cb_TB := cb_i1 5 rfl rfl
theorem cw_6 : (Jvm.Cond.initialized "CauseBook$Spreader") ∈ cb_TB := cb_i1 6 rfl rfl
theorem cw_7 : (Jvm.Cond.initialized "CauseBook$Codes") ∈ cb_TB := cb_i1 7 rfl rfl
theorem cw_8 : (Jvm.Cond.initialized "CauseBook$Decoder") ∈ cb_TB := cb_i1 8 rfl rfl
theorem cw_9 : (Jvm.Cond.initialized "CauseBook$Chances") ∈ cb_TB := cb_i1 9 rfl rfl
theorem cw_10 : (Jvm.Cond.initialized "CauseBook$Reducer") ∈ cb_TB := cb_i1 10 rfl rfl
theorem cw_11 : (Jvm.Cond.initialized "CauseBook$Chronicle") ∈ cb_TB := cb_i1 11 rfl rfl
theorem cw_12 : (Jvm.Cond.initialized "java/lang/System") ∈ cb_TB := cb_i1 12 rfl rfl
theorem cw_13 : (Jvm.Cond.initialized "CauseBookModel") ∈ cb_TB := cb_i1 13 rfl rfl
theorem cw_14 : (Jvm.Cond.initialized "java/lang/Math") ∈ cb_TB := cb_i1 14 rfl rfl
theorem cw_15 : (Jvm.Cond.initialized "java/util/Arrays") ∈ cb_TB := cb_i1 15 rfl rfl
theorem cw_16 : (Jvm.Cond.initialized "java/lang/Integer") ∈ cb_TB := cb_i1 16 rfl rfl
theorem cw_31 : (Jvm.Cond.fieldLink "CauseBook$Model" (33 : Nat) "CauseBook$Model" "objects" "I") ∈ cb_TB := cb_i1 31 rfl rfl
theorem cw_32 : (Jvm.Cond.fieldLinkNest "CauseBook$Roll" (25 : Nat) "CauseBook$Model" "objects" "I" "CauseBook") ∈ cb_TB := cb_i1 32 rfl rfl
theorem cw_33 : (Jvm.Cond.fieldLinkNest "CauseBook$Spreader" (51 : Nat) "CauseBook$Model" "objects" "I" "CauseBook") ∈ cb_TB := cb_i1 33 rfl rfl
theorem cw_34 : (Jvm.Cond.fieldLinkNest "CauseBook" (137 : Nat) "CauseBook$Model" "objects" "I" "CauseBook") ∈ cb_TB := cb_i1 34 rfl rfl
theorem cw_35 : (Jvm.Cond.fieldLink "CauseBook$Model" (37 : Nat) "CauseBook$Model" "links" "I") ∈ cb_TB := cb_i1 35 rfl rfl
theorem cw_36 : (Jvm.Cond.fieldLinkNest "CauseBook$Spreader" (41 : Nat) "CauseBook$Model" "links" "I" "CauseBook") ∈ cb_TB := cb_i1 36 rfl rfl
theorem cw_37 : (Jvm.Cond.fieldLinkNest "CauseBook" (161 : Nat) "CauseBook$Model" "links" "I" "CauseBook") ∈ cb_TB := cb_i1 37 rfl rfl
theorem cw_38 : (Jvm.Cond.fieldLinkNest "CauseBook$Codes" (114 : Nat) "CauseBook$Model" "links" "I" "CauseBook") ∈ cb_TB := cb_i1 38 rfl rfl
theorem cw_39 : (Jvm.Cond.fieldLink "CauseBook$Model" (40 : Nat) "CauseBook$Model" "rules" "I") ∈ cb_TB := cb_i1 39 rfl rfl
theorem cw_40 : (Jvm.Cond.fieldLinkNest "CauseBook$Spreader" (79 : Nat) "CauseBook$Model" "rules" "I" "CauseBook") ∈ cb_TB := cb_i1 40 rfl rfl
theorem cw_41 : (Jvm.Cond.fieldLinkNest "CauseBook" (174 : Nat) "CauseBook$Model" "rules" "I" "CauseBook") ∈ cb_TB := cb_i1 41 rfl rfl
theorem cw_42 : (Jvm.Cond.fieldLinkNest "CauseBook$Chronicle" (26 : Nat) "CauseBook$Model" "entries" "I" "CauseBook") ∈ cb_TB := cb_i1 42 rfl rfl
theorem cw_43 : (Jvm.Cond.fieldLink "CauseBook$Model" (43 : Nat) "CauseBook$Model" "entries" "I") ∈ cb_TB := cb_i1 43 rfl rfl
theorem cw_44 : (Jvm.Cond.fieldLinkNest "CauseBook" (204 : Nat) "CauseBook$Model" "entries" "I" "CauseBook") ∈ cb_TB := cb_i1 44 rfl rfl
theorem cw_45 : (Jvm.Cond.fieldLinkNest "CauseBook$Decoder" (19 : Nat) "CauseBook$Model" "book" "I" "CauseBook") ∈ cb_TB := cb_i1 45 rfl rfl
theorem cw_46 : (Jvm.Cond.fieldLink "CauseBook$Model" (46 : Nat) "CauseBook$Model" "book" "I") ∈ cb_TB := cb_i1 46 rfl rfl
theorem cw_47 : (Jvm.Cond.fieldLinkNest "CauseBook$Chances" (59 : Nat) "CauseBook$Model" "book" "I" "CauseBook") ∈ cb_TB := cb_i1 47 rfl rfl
theorem cw_48 : (Jvm.Cond.fieldLinkNest "CauseBook" (193 : Nat) "CauseBook$Model" "book" "I" "CauseBook") ∈ cb_TB := cb_i1 48 rfl rfl
theorem cw_49 : (Jvm.Cond.fieldLink "CauseBook$Model" (49 : Nat) "CauseBook$Model" "seen" "I") ∈ cb_TB := cb_i1 49 rfl rfl
theorem cw_50 : (Jvm.Cond.fieldLinkNest "CauseBook$Chances" (68 : Nat) "CauseBook$Model" "seen" "I" "CauseBook") ∈ cb_TB := cb_i1 50 rfl rfl
theorem cw_51 : (Jvm.Cond.fieldLinkNest "CauseBook$Decoder" (58 : Nat) "CauseBook$Model" "seen" "I" "CauseBook") ∈ cb_TB := cb_i1 51 rfl rfl
theorem cw_52 : (Jvm.Cond.fieldLinkNest "CauseBook" (201 : Nat) "CauseBook$Model" "seen" "I" "CauseBook") ∈ cb_TB := cb_i1 52 rfl rfl
theorem cw_53 : (Jvm.Cond.fieldLink "CauseBook$Model" (9 : Nat) "CauseBook$Model" "kinds" "[I") ∈ cb_TB := cb_i1 53 rfl rfl
theorem cw_54 : (Jvm.Cond.fieldLinkNest "CauseBook$Roll" (29 : Nat) "CauseBook$Model" "kinds" "[I" "CauseBook") ∈ cb_TB := cb_i1 54 rfl rfl
theorem cw_55 : (Jvm.Cond.fieldLinkNest "CauseBook$Spreader" (54 : Nat) "CauseBook$Model" "kinds" "[I" "CauseBook") ∈ cb_TB := cb_i1 55 rfl rfl
theorem cw_56 : (Jvm.Cond.fieldLinkNest "CauseBook" (389 : Nat) "CauseBook$Model" "kinds" "[I" "CauseBook") ∈ cb_TB := cb_i1 56 rfl rfl
theorem cw_57 : (Jvm.Cond.fieldLink "CauseBook$Model" (15 : Nat) "CauseBook$Model" "linkParts" "[I") ∈ cb_TB := cb_i1 57 rfl rfl
theorem cw_58 : (Jvm.Cond.fieldLink "CauseBook$Model" (18 : Nat) "CauseBook$Model" "ruleParts" "[I") ∈ cb_TB := cb_i1 58 rfl rfl
theorem cw_59 : (Jvm.Cond.fieldLink "CauseBook$Model" (21 : Nat) "CauseBook$Model" "weights" "[I") ∈ cb_TB := cb_i1 59 rfl rfl
theorem cw_60 : (Jvm.Cond.fieldLinkNest "CauseBook" (127 : Nat) "CauseBook$Model" "weights" "[I" "CauseBook") ∈ cb_TB := cb_i1 60 rfl rfl
theorem cw_61 : (Jvm.Cond.fieldLink "CauseBook$Model" (24 : Nat) "CauseBook$Model" "signMarks" "[I") ∈ cb_TB := cb_i1 61 rfl rfl
theorem cw_62 : (Jvm.Cond.fieldLinkNest "CauseBook" (134 : Nat) "CauseBook$Model" "signMarks" "[I" "CauseBook") ∈ cb_TB := cb_i1 62 rfl rfl
theorem cw_63 : (Jvm.Cond.fieldLink "CauseBook$Model" (27 : Nat) "CauseBook$Model" "entrySigns" "[I") ∈ cb_TB := cb_i1 63 rfl rfl
theorem cw_64 : (Jvm.Cond.fieldLinkNest "CauseBook$Chronicle" (35 : Nat) "CauseBook$Model" "entrySigns" "[I" "CauseBook") ∈ cb_TB := cb_i1 64 rfl rfl
theorem cw_65 : (Jvm.Cond.fieldLink "CauseBook$Model" (30 : Nat) "CauseBook$Model" "entryTimes" "[I") ∈ cb_TB := cb_i1 65 rfl rfl
theorem cw_66 : (Jvm.Cond.fieldLinkNest "CauseBook$Chronicle" (32 : Nat) "CauseBook$Model" "entryTimes" "[I" "CauseBook") ∈ cb_TB := cb_i1 66 rfl rfl
theorem cw_104 : (Jvm.Cond.fieldLink "CauseBook$History" (11 : Nat) "CauseBook$History" "models" "[LCauseBook$Model;") ∈ cb_TB := cb_i1 104 rfl rfl
theorem cw_105 : (Jvm.Cond.fieldLink "CauseBook$History" (17 : Nat) "CauseBook$History" "acts" "[I") ∈ cb_TB := cb_i1 105 rfl rfl
theorem cw_106 : (Jvm.Cond.fieldLink "CauseBook$History" (30 : Nat) "CauseBook$History" "size" "I") ∈ cb_TB := cb_i1 106 rfl rfl
theorem cw_107 : (Jvm.Cond.fieldLinkNest "CauseBook" (223 : Nat) "CauseBook$History" "size" "I" "CauseBook") ∈ cb_TB := cb_i1 107 rfl rfl
theorem cw_108 : (Jvm.Cond.fieldLink "CauseBook$History" (22 : Nat) "CauseBook$History" "next" "I") ∈ cb_TB := cb_i1 108 rfl rfl
theorem cw_124 : (Jvm.Cond.fieldLink "CauseBook$Refusals" (9 : Nat) "CauseBook$Refusals" "counts" "[I") ∈ cb_TB := cb_i1 124 rfl rfl
theorem cw_125 : (Jvm.Cond.fieldLinkNest "CauseBook" (399 : Nat) "CauseBook$Refusals" "counts" "[I" "CauseBook") ∈ cb_TB := cb_i1 125 rfl rfl
theorem cw_126 : (Jvm.Cond.fieldLink "CauseBook$Refusals" (15 : Nat) "CauseBook$Refusals" "latest" "I") ∈ cb_TB := cb_i1 126 rfl rfl
theorem cw_127 : (Jvm.Cond.fieldLinkNest "CauseBook" (402 : Nat) "CauseBook$Refusals" "latest" "I" "CauseBook") ∈ cb_TB := cb_i1 127 rfl rfl
theorem cw_140 : (Jvm.Cond.fieldLink "CauseBook$Roll" (21 : Nat) "CauseBook$Roll" "size" "I") ∈ cb_TB := cb_i1 140 rfl rfl
theorem cw_141 : (Jvm.Cond.fieldLinkNest "CauseBook$Reducer" (32 : Nat) "CauseBook$Roll" "size" "I" "CauseBook") ∈ cb_TB := cb_i1 141 rfl rfl
theorem cw_142 : (Jvm.Cond.fieldLinkNest "CauseBook$Chances" (44 : Nat) "CauseBook$Roll" "size" "I" "CauseBook") ∈ cb_TB := cb_i1 142 rfl rfl
theorem cw_143 : (Jvm.Cond.fieldLinkNest "CauseBook$Codes" (52 : Nat) "CauseBook$Roll" "size" "I" "CauseBook") ∈ cb_TB := cb_i1 143 rfl rfl
theorem cw_144 : (Jvm.Cond.fieldLinkNest "CauseBook$Decoder" (41 : Nat) "CauseBook$Roll" "size" "I" "CauseBook") ∈ cb_TB := cb_i1 144 rfl rfl
theorem cw_145 : (Jvm.Cond.fieldLinkNest "CauseBook$Spreader" (61 : Nat) "CauseBook$Roll" "size" "I" "CauseBook") ∈ cb_TB := cb_i1 145 rfl rfl
theorem cw_146 : (Jvm.Cond.fieldLinkNest "CauseBook" (141 : Nat) "CauseBook$Roll" "size" "I" "CauseBook") ∈ cb_TB := cb_i1 146 rfl rfl
theorem cw_147 : (Jvm.Cond.fieldLinkNest "CauseBook$Chronicle" (94 : Nat) "CauseBook$Roll" "size" "I" "CauseBook") ∈ cb_TB := cb_i1 147 rfl rfl
theorem cw_148 : (Jvm.Cond.fieldLink "CauseBook$Roll" (9 : Nat) "CauseBook$Roll" "objects" "[I") ∈ cb_TB := cb_i1 148 rfl rfl
theorem cw_149 : (Jvm.Cond.fieldLinkNest "CauseBook$Codes" (58 : Nat) "CauseBook$Roll" "objects" "[I" "CauseBook") ∈ cb_TB := cb_i1 149 rfl rfl
theorem cw_150 : (Jvm.Cond.fieldLinkNest "CauseBook$Spreader" (70 : Nat) "CauseBook$Roll" "objects" "[I" "CauseBook") ∈ cb_TB := cb_i1 150 rfl rfl
theorem cw_151 : (Jvm.Cond.fieldLinkNest "CauseBook" (375 : Nat) "CauseBook$Roll" "objects" "[I" "CauseBook") ∈ cb_TB := cb_i1 151 rfl rfl
theorem cw_152 : (Jvm.Cond.fieldLink "CauseBook$Roll" (15 : Nat) "CauseBook$Roll" "events" "[I") ∈ cb_TB := cb_i1 152 rfl rfl
theorem cw_153 : (Jvm.Cond.fieldLinkNest "CauseBook$Codes" (61 : Nat) "CauseBook$Roll" "events" "[I" "CauseBook") ∈ cb_TB := cb_i1 153 rfl rfl
theorem cw_154 : (Jvm.Cond.fieldLinkNest "CauseBook$Spreader" (72 : Nat) "CauseBook$Roll" "events" "[I" "CauseBook") ∈ cb_TB := cb_i1 154 rfl rfl
theorem cw_155 : (Jvm.Cond.fieldLinkNest "CauseBook" (377 : Nat) "CauseBook$Roll" "events" "[I" "CauseBook") ∈ cb_TB := cb_i1 155 rfl rfl
theorem cw_156 : (Jvm.Cond.fieldLink "CauseBook$Roll" (18 : Nat) "CauseBook$Roll" "marks" "[I") ∈ cb_TB := cb_i1 156 rfl rfl
theorem cw_157 : (Jvm.Cond.fieldLinkNest "CauseBook$Chances" (50 : Nat) "CauseBook$Roll" "marks" "[I" "CauseBook") ∈ cb_TB := cb_i1 157 rfl rfl
theorem cw_158 : (Jvm.Cond.fieldLinkNest "CauseBook" (380 : Nat) "CauseBook$Roll" "marks" "[I" "CauseBook") ∈ cb_TB := cb_i1 158 rfl rfl
theorem cw_174 : (Jvm.Cond.fieldLink "CauseBook$Spreader" (27 : Nat) "CauseBook$Spreader" "model" "LCauseBook$Model;") ∈ cb_TB := cb_i1 174 rfl rfl
theorem cw_175 : (Jvm.Cond.fieldLink "CauseBook$Spreader" (31 : Nat) "CauseBook$Spreader" "causes" "LCauseBook$Roll;") ∈ cb_TB := cb_i1 175 rfl rfl
theorem cw_176 : (Jvm.Cond.fieldLink "CauseBook$Spreader" (9 : Nat) "CauseBook$Spreader" "times" "[I") ∈ cb_TB := cb_i1 176 rfl rfl
theorem cw_177 : (Jvm.Cond.fieldLink "CauseBook$Spreader" (15 : Nat) "CauseBook$Spreader" "holders" "[I") ∈ cb_TB := cb_i1 177 rfl rfl
theorem cw_178 : (Jvm.Cond.fieldLink "CauseBook$Spreader" (18 : Nat) "CauseBook$Spreader" "outward" "[I") ∈ cb_TB := cb_i1 178 rfl rfl
theorem cw_179 : (Jvm.Cond.fieldLink "CauseBook$Spreader" (21 : Nat) "CauseBook$Spreader" "inward" "[I") ∈ cb_TB := cb_i1 179 rfl rfl
theorem cw_180 : (Jvm.Cond.fieldLink "CauseBook$Spreader" (24 : Nat) "CauseBook$Spreader" "ofKind" "[I") ∈ cb_TB := cb_i1 180 rfl rfl
theorem cw_181 : (Jvm.Cond.fieldLink "CauseBook$Spreader" (58 : Nat) "CauseBook$Spreader" "changedEvents" "I") ∈ cb_TB := cb_i1 181 rfl rfl
theorem cw_182 : (Jvm.Cond.fieldLink "CauseBook$Spreader" (89 : Nat) "CauseBook$Spreader" "metTime" "Z") ∈ cb_TB := cb_i1 182 rfl rfl
theorem cw_208 : (Jvm.Cond.fieldLink "CauseBook$Codes" (27 : Nat) "CauseBook$Codes" "model" "LCauseBook$Model;") ∈ cb_TB := cb_i1 208 rfl rfl
theorem cw_209 : (Jvm.Cond.fieldLink "CauseBook$Codes" (31 : Nat) "CauseBook$Codes" "spreader" "LCauseBook$Spreader;") ∈ cb_TB := cb_i1 209 rfl rfl
theorem cw_210 : (Jvm.Cond.fieldLink "CauseBook$Codes" (35 : Nat) "CauseBook$Codes" "causes" "LCauseBook$Roll;") ∈ cb_TB := cb_i1 210 rfl rfl
theorem cw_211 : (Jvm.Cond.fieldLinkNest "CauseBook$Chances" (38 : Nat) "CauseBook$Codes" "causes" "LCauseBook$Roll;" "CauseBook") ∈ cb_TB := cb_i1 211 rfl rfl
theorem cw_212 : (Jvm.Cond.fieldLinkNest "CauseBook$Decoder" (35 : Nat) "CauseBook$Codes" "causes" "LCauseBook$Roll;" "CauseBook") ∈ cb_TB := cb_i1 212 rfl rfl
theorem cw_213 : (Jvm.Cond.fieldLinkNest "CauseBook$Reducer" (54 : Nat) "CauseBook$Codes" "causes" "LCauseBook$Roll;" "CauseBook") ∈ cb_TB := cb_i1 213 rfl rfl
theorem cw_214 : (Jvm.Cond.fieldLinkNest "CauseBook$Chronicle" (90 : Nat) "CauseBook$Codes" "causes" "LCauseBook$Roll;" "CauseBook") ∈ cb_TB := cb_i1 214 rfl rfl
theorem cw_215 : (Jvm.Cond.fieldLink "CauseBook$Codes" (39 : Nat) "CauseBook$Codes" "signs" "LCauseBook$Roll;") ∈ cb_TB := cb_i1 215 rfl rfl
theorem cw_216 : (Jvm.Cond.fieldLinkNest "CauseBook$Reducer" (26 : Nat) "CauseBook$Codes" "signs" "LCauseBook$Roll;" "CauseBook") ∈ cb_TB := cb_i1 216 rfl rfl
theorem cw_217 : (Jvm.Cond.fieldLinkNest "CauseBook$Chances" (56 : Nat) "CauseBook$Codes" "signs" "LCauseBook$Roll;" "CauseBook") ∈ cb_TB := cb_i1 217 rfl rfl
theorem cw_218 : (Jvm.Cond.fieldLinkNest "CauseBook$Decoder" (96 : Nat) "CauseBook$Codes" "signs" "LCauseBook$Roll;" "CauseBook") ∈ cb_TB := cb_i1 218 rfl rfl
theorem cw_219 : (Jvm.Cond.fieldLink "CauseBook$Codes" (9 : Nat) "CauseBook$Codes" "ofCauses" "[I") ∈ cb_TB := cb_i1 219 rfl rfl
theorem cw_220 : (Jvm.Cond.fieldLinkNest "CauseBook$Chances" (53 : Nat) "CauseBook$Codes" "ofCauses" "[I" "CauseBook") ∈ cb_TB := cb_i1 220 rfl rfl
theorem cw_221 : (Jvm.Cond.fieldLinkNest "CauseBook$Decoder" (46 : Nat) "CauseBook$Codes" "ofCauses" "[I" "CauseBook") ∈ cb_TB := cb_i1 221 rfl rfl
theorem cw_222 : (Jvm.Cond.fieldLinkNest "CauseBook$Reducer" (57 : Nat) "CauseBook$Codes" "ofCauses" "[I" "CauseBook") ∈ cb_TB := cb_i1 222 rfl rfl
theorem cw_223 : (Jvm.Cond.fieldLinkNest "CauseBook" (264 : Nat) "CauseBook$Codes" "ofCauses" "[I" "CauseBook") ∈ cb_TB := cb_i1 223 rfl rfl
theorem cw_224 : (Jvm.Cond.fieldLink "CauseBook$Codes" (15 : Nat) "CauseBook$Codes" "signTimes" "[I") ∈ cb_TB := cb_i1 224 rfl rfl
theorem cw_225 : (Jvm.Cond.fieldLink "CauseBook$Codes" (18 : Nat) "CauseBook$Codes" "sets" "[I") ∈ cb_TB := cb_i1 225 rfl rfl
theorem cw_226 : (Jvm.Cond.fieldLinkNest "CauseBook$Decoder" (72 : Nat) "CauseBook$Codes" "sets" "[I" "CauseBook") ∈ cb_TB := cb_i1 226 rfl rfl
theorem cw_227 : (Jvm.Cond.fieldLink "CauseBook$Codes" (21 : Nat) "CauseBook$Codes" "ofSets" "[I") ∈ cb_TB := cb_i1 227 rfl rfl
theorem cw_228 : (Jvm.Cond.fieldLinkNest "CauseBook$Decoder" (75 : Nat) "CauseBook$Codes" "ofSets" "[I" "CauseBook") ∈ cb_TB := cb_i1 228 rfl rfl
theorem cw_229 : (Jvm.Cond.fieldLink "CauseBook$Codes" (24 : Nat) "CauseBook$Codes" "minimals" "[I") ∈ cb_TB := cb_i1 229 rfl rfl
theorem cw_230 : (Jvm.Cond.fieldLinkNest "CauseBook" (321 : Nat) "CauseBook$Codes" "minimals" "[I" "CauseBook") ∈ cb_TB := cb_i1 230 rfl rfl
theorem cw_231 : (Jvm.Cond.fieldLinkNest "CauseBook$Decoder" (69 : Nat) "CauseBook$Codes" "setCount" "I" "CauseBook") ∈ cb_TB := cb_i1 231 rfl rfl
theorem cw_232 : (Jvm.Cond.fieldLink "CauseBook$Codes" (91 : Nat) "CauseBook$Codes" "setCount" "I") ∈ cb_TB := cb_i1 232 rfl rfl
theorem cw_233 : (Jvm.Cond.fieldLink "CauseBook$Codes" (108 : Nat) "CauseBook$Codes" "weakestLink" "I") ∈ cb_TB := cb_i1 233 rfl rfl
theorem cw_234 : (Jvm.Cond.fieldLinkNest "CauseBook" (327 : Nat) "CauseBook$Codes" "weakestLink" "I" "CauseBook") ∈ cb_TB := cb_i1 234 rfl rfl
theorem cw_235 : (Jvm.Cond.fieldLink "CauseBook$Codes" (111 : Nat) "CauseBook$Codes" "weakestChanges" "I") ∈ cb_TB := cb_i1 235 rfl rfl
theorem cw_236 : (Jvm.Cond.fieldLinkNest "CauseBook" (330 : Nat) "CauseBook$Codes" "weakestChanges" "I" "CauseBook") ∈ cb_TB := cb_i1 236 rfl rfl
theorem cw_237 : (Jvm.Cond.fieldLink "CauseBook$Codes" (42 : Nat) "CauseBook$Codes" "known" "Z") ∈ cb_TB := cb_i1 237 rfl rfl
theorem cw_238 : (Jvm.Cond.fieldLink "CauseBook$Codes" (46 : Nat) "CauseBook$Codes" "setsKnown" "Z") ∈ cb_TB := cb_i1 238 rfl rfl
theorem cw_239 : (Jvm.Cond.fieldLink "CauseBook$Codes" (49 : Nat) "CauseBook$Codes" "weakestKnown" "Z") ∈ cb_TB := cb_i1 239 rfl rfl
theorem cw_277 : (Jvm.Cond.fieldLink "CauseBook$Decoder" (9 : Nat) "CauseBook$Decoder" "model" "LCauseBook$Model;") ∈ cb_TB := cb_i2 37 rfl rfl
theorem cw_278 : (Jvm.Cond.fieldLink "CauseBook$Decoder" (15 : Nat) "CauseBook$Decoder" "codes" "LCauseBook$Codes;") ∈ cb_TB := cb_i2 38 rfl rfl
theorem cw_279 : (Jvm.Cond.fieldLink "CauseBook$Decoder" (32 : Nat) "CauseBook$Decoder" "least" "I") ∈ cb_TB := cb_i2 39 rfl rfl
theorem cw_280 : (Jvm.Cond.fieldLinkNest "CauseBook" (270 : Nat) "CauseBook$Decoder" "least" "I" "CauseBook") ∈ cb_TB := cb_i2 40 rfl rfl
theorem cw_281 : (Jvm.Cond.fieldLink "CauseBook$Decoder" (66 : Nat) "CauseBook$Decoder" "alike" "I") ∈ cb_TB := cb_i2 41 rfl rfl
theorem cw_282 : (Jvm.Cond.fieldLinkNest "CauseBook" (285 : Nat) "CauseBook$Decoder" "alike" "I" "CauseBook") ∈ cb_TB := cb_i2 42 rfl rfl
theorem cw_298 : (Jvm.Cond.fieldLink "CauseBook$Chances" (15 : Nat) "CauseBook$Chances" "model" "LCauseBook$Model;") ∈ cb_TB := cb_i2 58 rfl rfl
theorem cw_299 : (Jvm.Cond.fieldLink "CauseBook$Chances" (19 : Nat) "CauseBook$Chances" "codes" "LCauseBook$Codes;") ∈ cb_TB := cb_i2 59 rfl rfl
theorem cw_300 : (Jvm.Cond.fieldLink "CauseBook$Chances" (23 : Nat) "CauseBook$Chances" "terms" "[I") ∈ cb_TB := cb_i2 60 rfl rfl
theorem cw_301 : (Jvm.Cond.fieldLink "CauseBook$Chances" (9 : Nat) "CauseBook$Chances" "shares" "[J") ∈ cb_TB := cb_i2 61 rfl rfl
theorem cw_302 : (Jvm.Cond.fieldLinkNest "CauseBook" (297 : Nat) "CauseBook$Chances" "shares" "[J" "CauseBook") ∈ cb_TB := cb_i2 62 rfl rfl
theorem cw_303 : (Jvm.Cond.fieldLink "CauseBook$Chances" (31 : Nat) "CauseBook$Chances" "ofNothing" "J") ∈ cb_TB := cb_i2 63 rfl rfl
theorem cw_304 : (Jvm.Cond.fieldLinkNest "CauseBook" (293 : Nat) "CauseBook$Chances" "ofNothing" "J" "CauseBook") ∈ cb_TB := cb_i2 64 rfl rfl
theorem cw_305 : (Jvm.Cond.fieldLink "CauseBook$Chances" (35 : Nat) "CauseBook$Chances" "total" "J") ∈ cb_TB := cb_i2 65 rfl rfl
theorem cw_306 : (Jvm.Cond.fieldLinkNest "CauseBook" (301 : Nat) "CauseBook$Chances" "total" "J" "CauseBook") ∈ cb_TB := cb_i2 66 rfl rfl
theorem cw_327 : (Jvm.Cond.fieldLink "CauseBook$Reducer" (18 : Nat) "CauseBook$Reducer" "codes" "LCauseBook$Codes;") ∈ cb_TB := cb_i2 87 rfl rfl
theorem cw_328 : (Jvm.Cond.fieldLink "CauseBook$Reducer" (9 : Nat) "CauseBook$Reducer" "aparts" "[I") ∈ cb_TB := cb_i2 88 rfl rfl
theorem cw_329 : (Jvm.Cond.fieldLink "CauseBook$Reducer" (15 : Nat) "CauseBook$Reducer" "needs" "[I") ∈ cb_TB := cb_i2 89 rfl rfl
theorem cw_330 : (Jvm.Cond.fieldLink "CauseBook$Reducer" (51 : Nat) "CauseBook$Reducer" "pairs" "I") ∈ cb_TB := cb_i2 90 rfl rfl
theorem cw_331 : (Jvm.Cond.fieldLink "CauseBook$Reducer" (38 : Nat) "CauseBook$Reducer" "must" "I") ∈ cb_TB := cb_i2 91 rfl rfl
theorem cw_349 : (Jvm.Cond.fieldLink "CauseBook$Chronicle" (15 : Nat) "CauseBook$Chronicle" "model" "LCauseBook$Model;") ∈ cb_TB := cb_i2 109 rfl rfl
theorem cw_350 : (Jvm.Cond.fieldLink "CauseBook$Chronicle" (19 : Nat) "CauseBook$Chronicle" "codes" "LCauseBook$Codes;") ∈ cb_TB := cb_i2 110 rfl rfl
theorem cw_351 : (Jvm.Cond.fieldLink "CauseBook$Chronicle" (23 : Nat) "CauseBook$Chronicle" "terms" "[I") ∈ cb_TB := cb_i2 111 rfl rfl
theorem cw_352 : (Jvm.Cond.fieldLink "CauseBook$Chronicle" (9 : Nat) "CauseBook$Chronicle" "offers" "[I") ∈ cb_TB := cb_i2 112 rfl rfl
theorem cw_353 : (Jvm.Cond.fieldLink "CauseBook$Chronicle" (87 : Nat) "CauseBook$Chronicle" "offerCount" "I") ∈ cb_TB := cb_i2 113 rfl rfl
theorem cw_368 : (Jvm.Cond.static ({ cls := "java/lang/System", name := "arraycopy", desc := "(Ljava/lang/Object;ILjava/lang/Object;II)V" } : Jvm.MethodName)) ∈ cb_TB := cb_i2 128 rfl rfl
theorem cw_369 : (Jvm.Cond.native ({ cls := "java/lang/System", name := "arraycopy", desc := "(Ljava/lang/Object;ILjava/lang/Object;II)V" } : Jvm.MethodName)) ∈ cb_TB := cb_i2 129 rfl rfl
theorem cw_370 : (Jvm.Cond.fieldLink "CauseBook" (12 : Nat) "CauseBook" "model" "LCauseBook$Model;") ∈ cb_TB := cb_i2 130 rfl rfl
theorem cw_371 : (Jvm.Cond.fieldLink "CauseBook" (19 : Nat) "CauseBook" "history" "LCauseBook$History;") ∈ cb_TB := cb_i2 131 rfl rfl
theorem cw_372 : (Jvm.Cond.fieldLink "CauseBook" (23 : Nat) "CauseBook" "images" "[LCauseBook$Model;") ∈ cb_TB := cb_i2 132 rfl rfl
theorem cw_373 : (Jvm.Cond.fieldLink "CauseBook" (27 : Nat) "CauseBook" "imageKept" "[Z") ∈ cb_TB := cb_i2 133 rfl rfl
theorem cw_374 : (Jvm.Cond.fieldLink "CauseBook" (34 : Nat) "CauseBook" "refusals" "LCauseBook$Refusals;") ∈ cb_TB := cb_i2 134 rfl rfl
theorem cw_375 : (Jvm.Cond.fieldLink "CauseBook" (38 : Nat) "CauseBook" "termValues" "[I") ∈ cb_TB := cb_i2 135 rfl rfl
theorem cw_376 : (Jvm.Cond.fieldLink "CauseBook" (45 : Nat) "CauseBook" "causeRoll" "LCauseBook$Roll;") ∈ cb_TB := cb_i2 136 rfl rfl
theorem cw_377 : (Jvm.Cond.fieldLink "CauseBook" (49 : Nat) "CauseBook" "signRoll" "LCauseBook$Roll;") ∈ cb_TB := cb_i2 137 rfl rfl
theorem cw_378 : (Jvm.Cond.fieldLink "CauseBook" (57 : Nat) "CauseBook" "spreader" "LCauseBook$Spreader;") ∈ cb_TB := cb_i2 138 rfl rfl
theorem cw_379 : (Jvm.Cond.fieldLink "CauseBook" (66 : Nat) "CauseBook" "codes" "LCauseBook$Codes;") ∈ cb_TB := cb_i2 139 rfl rfl
theorem cw_380 : (Jvm.Cond.fieldLink "CauseBook" (75 : Nat) "CauseBook" "decoder" "LCauseBook$Decoder;") ∈ cb_TB := cb_i2 140 rfl rfl
theorem cw_381 : (Jvm.Cond.fieldLink "CauseBook" (84 : Nat) "CauseBook" "chances" "LCauseBook$Chances;") ∈ cb_TB := cb_i2 141 rfl rfl
theorem cw_382 : (Jvm.Cond.fieldLink "CauseBook" (93 : Nat) "CauseBook" "reducer" "LCauseBook$Reducer;") ∈ cb_TB := cb_i2 142 rfl rfl
theorem cw_383 : (Jvm.Cond.fieldLink "CauseBook" (100 : Nat) "CauseBook" "chronicle" "LCauseBook$Chronicle;") ∈ cb_TB := cb_i2 143 rfl rfl
theorem cw_414 : (Jvm.Cond.instanceMethod ({ cls := "CauseBook", name := "terms", desc := "(II)I" } : Jvm.MethodName)) ∈ cb_TB := cb_i2 174 rfl rfl
theorem cw_415 : (Jvm.Cond.selects "CauseBook" ({ cls := "CauseBook", name := "terms", desc := "(II)I" } : Jvm.MethodName) ({ cls := "CauseBook", name := "terms", desc := "(II)I" } : Jvm.MethodName)) ∈ cb_TB := cb_i2 175 rfl rfl
theorem cw_416 : (Jvm.Cond.code ({ cls := "CauseBook", name := "terms", desc := "(II)I" } : Jvm.MethodName) prog_1_method_2_code (4 : Nat) (Option.some Jvm.ClassFile.FieldType.int)) ∈ cb_TB := cb_i2 176 rfl rfl
theorem cw_417 : (Jvm.Cond.methodLink "CauseBook" (113 : Nat) ({ cls := "CauseBook", name := "outside", desc := "(II)Z" } : Jvm.MethodName)) ∈ cb_TB := cb_i2 177 rfl rfl
theorem cw_418 : (Jvm.Cond.static ({ cls := "CauseBook", name := "outside", desc := "(II)Z" } : Jvm.MethodName)) ∈ cb_TB := cb_i2 178 rfl rfl
theorem cw_419 : (Jvm.Cond.code ({ cls := "CauseBook", name := "outside", desc := "(II)Z" } : Jvm.MethodName) prog_1_method_48_code (2 : Nat) (Option.some Jvm.ClassFile.FieldType.boolean)) ∈ cb_TB := cb_i2 179 rfl rfl
theorem cw_420 : (Jvm.Cond.fieldLink "CauseBook" (117 : Nat) "CauseBook" "MOST_OF_TERMS" "[I") ∈ cb_TB := cb_i2 180 rfl rfl
theorem cw_422 : (Jvm.Cond.methodLinkNest "CauseBook" (120 : Nat) ({ cls := "CauseBook$Refusals", name := "refuse", desc := "(I)I" } : Jvm.MethodName) "CauseBook") ∈ cb_TB := cb_i2 182 rfl rfl
theorem cw_424 : (Jvm.Cond.instanceMethod ({ cls := "CauseBook$Refusals", name := "refuse", desc := "(I)I" } : Jvm.MethodName)) ∈ cb_TB := cb_i2 184 rfl rfl
theorem cw_425 : (Jvm.Cond.code ({ cls := "CauseBook$Refusals", name := "refuse", desc := "(I)I" } : Jvm.MethodName) prog_9_method_2_code (2 : Nat) (Option.some Jvm.ClassFile.FieldType.int)) ∈ cb_TB := cb_i2 185 rfl rfl
theorem cw_426 : (Jvm.Cond.methodLink "CauseBook$Refusals" (19 : Nat) ({ cls := "CauseBook$Refusals", name := "place", desc := "(I)I" } : Jvm.MethodName)) ∈ cb_TB := cb_i2 186 rfl rfl
theorem cw_427 : (Jvm.Cond.static ({ cls := "CauseBook$Refusals", name := "place", desc := "(I)I" } : Jvm.MethodName)) ∈ cb_TB := cb_i2 187 rfl rfl
theorem cw_428 : (Jvm.Cond.code ({ cls := "CauseBook$Refusals", name := "place", desc := "(I)I" } : Jvm.MethodName) prog_9_method_4_code (1 : Nat) (Option.some Jvm.ClassFile.FieldType.int)) ∈ cb_TB := cb_i2 188 rfl rfl
theorem cw_429 : (Jvm.Cond.methodLinkNest "CauseBook" (124 : Nat) ({ cls := "CauseBook$Refusals", name := "accept", desc := "()V" } : Jvm.MethodName) "CauseBook") ∈ cb_TB := cb_i2 189 rfl rfl
theorem cw_431 : (Jvm.Cond.instanceMethod ({ cls := "CauseBook$Refusals", name := "accept", desc := "()V" } : Jvm.MethodName)) ∈ cb_TB := cb_i2 191 rfl rfl
theorem cw_432 : (Jvm.Cond.code ({ cls := "CauseBook$Refusals", name := "accept", desc := "()V" } : Jvm.MethodName) prog_9_method_3_code (1 : Nat) (Option.none : Option Jvm.ClassFile.FieldType)) ∈ cb_TB := cb_i2 192 rfl rfl
theorem cw_434 : (Jvm.Cond.instanceMethod ({ cls := "CauseBook", name := "object", desc := "(I)I" } : Jvm.MethodName)) ∈ cb_TB := cb_i2 194 rfl rfl
theorem cw_435 : (Jvm.Cond.selects "CauseBook" ({ cls := "CauseBook", name := "object", desc := "(I)I" } : Jvm.MethodName) ({ cls := "CauseBook", name := "object", desc := "(I)I" } : Jvm.MethodName)) ∈ cb_TB := cb_i2 195 rfl rfl
theorem cw_436 : (Jvm.Cond.code ({ cls := "CauseBook", name := "object", desc := "(I)I" } : Jvm.MethodName) prog_1_method_3_code (4 : Nat) (Option.some Jvm.ClassFile.FieldType.int)) ∈ cb_TB := cb_i2 196 rfl rfl
theorem cw_437 : (Jvm.Cond.methodLinkNest "CauseBook" (130 : Nat) ({ cls := "CauseBook$Model", name := "marksOf", desc := "(I[I)I" } : Jvm.MethodName) "CauseBook") ∈ cb_TB := cb_i2 197 rfl rfl
theorem cw_439 : (Jvm.Cond.instanceMethod ({ cls := "CauseBook$Model", name := "marksOf", desc := "(I[I)I" } : Jvm.MethodName)) ∈ cb_TB := cb_i2 199 rfl rfl
theorem cw_440 : (Jvm.Cond.code ({ cls := "CauseBook$Model", name := "marksOf", desc := "(I[I)I" } : Jvm.MethodName) prog_7_method_5_code (5 : Nat) (Option.some Jvm.ClassFile.FieldType.int)) ∈ cb_TB := cb_i2 200 rfl rfl
theorem cw_441 : (Jvm.Cond.methodLink "CauseBook" (144 : Nat) ({ cls := "CauseBook", name := "begin", desc := "(I)V" } : Jvm.MethodName)) ∈ cb_TB := cb_i2 201 rfl rfl
theorem cw_443 : (Jvm.Cond.instanceMethod ({ cls := "CauseBook", name := "begin", desc := "(I)V" } : Jvm.MethodName)) ∈ cb_TB := cb_i2 203 rfl rfl
theorem cw_444 : (Jvm.Cond.code ({ cls := "CauseBook", name := "begin", desc := "(I)V" } : Jvm.MethodName) prog_1_method_54_code (2 : Nat) (Option.none : Option Jvm.ClassFile.FieldType)) ∈ cb_TB := cb_i2 204 rfl rfl
theorem cw_445 : (Jvm.Cond.methodLinkNest "CauseBook" (211 : Nat) ({ cls := "CauseBook$History", name := "keep", desc := "(LCauseBook$Model;I)V" } : Jvm.MethodName) "CauseBook") ∈ cb_TB := cb_i2 205 rfl rfl
theorem cw_447 : (Jvm.Cond.instanceMethod ({ cls := "CauseBook$History", name := "keep", desc := "(LCauseBook$Model;I)V" } : Jvm.MethodName)) ∈ cb_TB := cb_i2 207 rfl rfl
theorem cw_448 : (Jvm.Cond.code ({ cls := "CauseBook$History", name := "keep", desc := "(LCauseBook$Model;I)V" } : Jvm.MethodName) prog_6_method_2_code (3 : Nat) (Option.none : Option Jvm.ClassFile.FieldType)) ∈ cb_TB := cb_i2 208 rfl rfl
theorem cw_449 : (Jvm.Cond.methodLinkNest "CauseBook$History" (26 : Nat) ({ cls := "CauseBook$Model", name := "copyFrom", desc := "(LCauseBook$Model;)V" } : Jvm.MethodName) "CauseBook") ∈ cb_TB := cb_i2 209 rfl rfl
theorem cw_451 : (Jvm.Cond.instanceMethod ({ cls := "CauseBook$Model", name := "copyFrom", desc := "(LCauseBook$Model;)V" } : Jvm.MethodName)) ∈ cb_TB := cb_i2 211 rfl rfl
theorem cw_452 : (Jvm.Cond.code ({ cls := "CauseBook$Model", name := "copyFrom", desc := "(LCauseBook$Model;)V" } : Jvm.MethodName) prog_7_method_2_code (2 : Nat) (Option.none : Option Jvm.ClassFile.FieldType)) ∈ cb_TB := cb_i2 212 rfl rfl
theorem cw_453 : (Jvm.Cond.methodLink "CauseBook$Model" (52 : Nat) ({ cls := "java/lang/System", name := "arraycopy", desc := "(Ljava/lang/Object;ILjava/lang/Object;II)V" } : Jvm.MethodName)) ∈ cb_TB := cb_i2 213 rfl rfl
theorem cw_454 : (Jvm.Cond.methodLink "CauseBook$History" (33 : Nat) ({ cls := "java/lang/Math", name := "min", desc := "(II)I" } : Jvm.MethodName)) ∈ cb_TB := cb_i2 214 rfl rfl
theorem cw_455 : (Jvm.Cond.static ({ cls := "java/lang/Math", name := "min", desc := "(II)I" } : Jvm.MethodName)) ∈ cb_TB := cb_i2 215 rfl rfl
theorem cw_456 : (Jvm.Cond.code ({ cls := "java/lang/Math", name := "min", desc := "(II)I" } : Jvm.MethodName) prog_15_method_69_code (2 : Nat) (Option.some Jvm.ClassFile.FieldType.int)) ∈ cb_TB := cb_i2 216 rfl rfl
theorem cw_457 : (Jvm.Cond.methodLinkNest "CauseBook" (148 : Nat) ({ cls := "CauseBook$Model", name := "addObject", desc := "(I)V" } : Jvm.MethodName) "CauseBook") ∈ cb_TB := cb_i2 217 rfl rfl
theorem cw_459 : (Jvm.Cond.instanceMethod ({ cls := "CauseBook$Model", name := "addObject", desc := "(I)V" } : Jvm.MethodName)) ∈ cb_TB := cb_i2 219 rfl rfl
theorem cw_460 : (Jvm.Cond.code ({ cls := "CauseBook$Model", name := "addObject", desc := "(I)V" } : Jvm.MethodName) prog_7_method_3_code (2 : Nat) (Option.none : Option Jvm.ClassFile.FieldType)) ∈ cb_TB := cb_i2 220 rfl rfl
theorem cw_461 : (Jvm.Cond.methodLink "CauseBook" (151 : Nat) ({ cls := "CauseBook", name := "settle", desc := "()V" } : Jvm.MethodName)) ∈ cb_TB := cb_i2 221 rfl rfl
theorem cw_463 : (Jvm.Cond.instanceMethod ({ cls := "CauseBook", name := "settle", desc := "()V" } : Jvm.MethodName)) ∈ cb_TB := cb_i2 223 rfl rfl
theorem cw_464 : (Jvm.Cond.code ({ cls := "CauseBook", name := "settle", desc := "()V" } : Jvm.MethodName) prog_1_method_55_code (1 : Nat) (Option.none : Option Jvm.ClassFile.FieldType)) ∈ cb_TB := cb_i2 224 rfl rfl
theorem cw_465 : (Jvm.Cond.methodLinkNest "CauseBook" (407 : Nat) ({ cls := "CauseBook$Roll", name := "call", desc := "(LCauseBook$Model;[I)V" } : Jvm.MethodName) "CauseBook") ∈ cb_TB := cb_i2 225 rfl rfl
theorem cw_467 : (Jvm.Cond.instanceMethod ({ cls := "CauseBook$Roll", name := "call", desc := "(LCauseBook$Model;[I)V" } : Jvm.MethodName)) ∈ cb_TB := cb_i2 227 rfl rfl
theorem cw_468 : (Jvm.Cond.code ({ cls := "CauseBook$Roll", name := "call", desc := "(LCauseBook$Model;[I)V" } : Jvm.MethodName) prog_10_method_2_code (6 : Nat) (Option.none : Option Jvm.ClassFile.FieldType)) ∈ cb_TB := cb_i2 228 rfl rfl
theorem cw_469 : (Jvm.Cond.methodLinkNest "CauseBook" (168 : Nat) ({ cls := "CauseBook$Codes", name := "forget", desc := "()V" } : Jvm.MethodName) "CauseBook") ∈ cb_TB := cb_i2 229 rfl rfl
theorem cw_471 : (Jvm.Cond.instanceMethod ({ cls := "CauseBook$Codes", name := "forget", desc := "()V" } : Jvm.MethodName)) ∈ cb_TB := cb_i2 231 rfl rfl
theorem cw_472 : (Jvm.Cond.code ({ cls := "CauseBook$Codes", name := "forget", desc := "()V" } : Jvm.MethodName) prog_4_method_2_code (1 : Nat) (Option.none : Option Jvm.ClassFile.FieldType)) ∈ cb_TB := cb_i2 232 rfl rfl
theorem cw_473 : (Jvm.Cond.methodLink "CauseBook" (154 : Nat) ({ cls := "CauseBook", name := "startBookAnew", desc := "()V" } : Jvm.MethodName)) ∈ cb_TB := cb_i2 233 rfl rfl
theorem cw_475 : (Jvm.Cond.instanceMethod ({ cls := "CauseBook", name := "startBookAnew", desc := "()V" } : Jvm.MethodName)) ∈ cb_TB := cb_i2 235 rfl rfl
theorem cw_476 : (Jvm.Cond.code ({ cls := "CauseBook", name := "startBookAnew", desc := "()V" } : Jvm.MethodName) prog_1_method_56_code (1 : Nat) (Option.none : Option Jvm.ClassFile.FieldType)) ∈ cb_TB := cb_i2 236 rfl rfl
theorem cw_478 : (Jvm.Cond.instanceMethod ({ cls := "CauseBook", name := "link", desc := "(III)I" } : Jvm.MethodName)) ∈ cb_TB := cb_i2 238 rfl rfl
theorem cw_479 : (Jvm.Cond.selects "CauseBook" ({ cls := "CauseBook", name := "link", desc := "(III)I" } : Jvm.MethodName) ({ cls := "CauseBook", name := "link", desc := "(III)I" } : Jvm.MethodName)) ∈ cb_TB := cb_i2 239 rfl rfl
theorem cw_480 : (Jvm.Cond.code ({ cls := "CauseBook", name := "link", desc := "(III)I" } : Jvm.MethodName) prog_1_method_4_code (4 : Nat) (Option.some Jvm.ClassFile.FieldType.int)) ∈ cb_TB := cb_i3 0 rfl rfl
theorem cw_481 : (Jvm.Cond.methodLinkNest "CauseBook" (157 : Nat) ({ cls := "CauseBook$Model", name := "hasLink", desc := "(III)Z" } : Jvm.MethodName) "CauseBook") ∈ cb_TB := cb_i3 1 rfl rfl
theorem cw_483 : (Jvm.Cond.instanceMethod ({ cls := "CauseBook$Model", name := "hasLink", desc := "(III)Z" } : Jvm.MethodName)) ∈ cb_TB := cb_i3 3 rfl rfl
theorem cw_484 : (Jvm.Cond.code ({ cls := "CauseBook$Model", name := "hasLink", desc := "(III)Z" } : Jvm.MethodName) prog_7_method_7_code (5 : Nat) (Option.some Jvm.ClassFile.FieldType.boolean)) ∈ cb_TB := cb_i3 4 rfl rfl
theorem cw_485 : (Jvm.Cond.methodLink "CauseBook$Model" (58 : Nat) ({ cls := "CauseBook$Model", name := "linkPart", desc := "(II)I" } : Jvm.MethodName)) ∈ cb_TB := cb_i3 5 rfl rfl
theorem cw_487 : (Jvm.Cond.instanceMethod ({ cls := "CauseBook$Model", name := "linkPart", desc := "(II)I" } : Jvm.MethodName)) ∈ cb_TB := cb_i3 7 rfl rfl
theorem cw_488 : (Jvm.Cond.code ({ cls := "CauseBook$Model", name := "linkPart", desc := "(II)I" } : Jvm.MethodName) prog_7_method_6_code (3 : Nat) (Option.some Jvm.ClassFile.FieldType.int)) ∈ cb_TB := cb_i3 8 rfl rfl
theorem cw_489 : (Jvm.Cond.methodLinkNest "CauseBook" (164 : Nat) ({ cls := "CauseBook$Model", name := "addLink", desc := "(III)V" } : Jvm.MethodName) "CauseBook") ∈ cb_TB := cb_i3 9 rfl rfl
theorem cw_491 : (Jvm.Cond.instanceMethod ({ cls := "CauseBook$Model", name := "addLink", desc := "(III)V" } : Jvm.MethodName)) ∈ cb_TB := cb_i3 11 rfl rfl
theorem cw_492 : (Jvm.Cond.code ({ cls := "CauseBook$Model", name := "addLink", desc := "(III)V" } : Jvm.MethodName) prog_7_method_8_code (5 : Nat) (Option.none : Option Jvm.ClassFile.FieldType)) ∈ cb_TB := cb_i3 12 rfl rfl
theorem cw_494 : (Jvm.Cond.instanceMethod ({ cls := "CauseBook", name := "cut", desc := "(I)I" } : Jvm.MethodName)) ∈ cb_TB := cb_i3 14 rfl rfl
theorem cw_495 : (Jvm.Cond.selects "CauseBook" ({ cls := "CauseBook", name := "cut", desc := "(I)I" } : Jvm.MethodName) ({ cls := "CauseBook", name := "cut", desc := "(I)I" } : Jvm.MethodName)) ∈ cb_TB := cb_i3 15 rfl rfl
theorem cw_496 : (Jvm.Cond.code ({ cls := "CauseBook", name := "cut", desc := "(I)I" } : Jvm.MethodName) prog_1_method_5_code (2 : Nat) (Option.some Jvm.ClassFile.FieldType.int)) ∈ cb_TB := cb_i3 16 rfl rfl
theorem cw_497 : (Jvm.Cond.methodLinkNest "CauseBook" (171 : Nat) ({ cls := "CauseBook$Model", name := "removeLink", desc := "(I)V" } : Jvm.MethodName) "CauseBook") ∈ cb_TB := cb_i3 17 rfl rfl
theorem cw_499 : (Jvm.Cond.instanceMethod ({ cls := "CauseBook$Model", name := "removeLink", desc := "(I)V" } : Jvm.MethodName)) ∈ cb_TB := cb_i3 19 rfl rfl
theorem cw_500 : (Jvm.Cond.code ({ cls := "CauseBook$Model", name := "removeLink", desc := "(I)V" } : Jvm.MethodName) prog_7_method_9_code (2 : Nat) (Option.none : Option Jvm.ClassFile.FieldType)) ∈ cb_TB := cb_i3 20 rfl rfl
theorem cw_502 : (Jvm.Cond.instanceMethod ({ cls := "CauseBook", name := "rule", desc := "(IIIII)I" } : Jvm.MethodName)) ∈ cb_TB := cb_i3 22 rfl rfl
theorem cw_503 : (Jvm.Cond.selects "CauseBook" ({ cls := "CauseBook", name := "rule", desc := "(IIIII)I" } : Jvm.MethodName) ({ cls := "CauseBook", name := "rule", desc := "(IIIII)I" } : Jvm.MethodName)) ∈ cb_TB := cb_i3 23 rfl rfl
theorem cw_504 : (Jvm.Cond.code ({ cls := "CauseBook", name := "rule", desc := "(IIIII)I" } : Jvm.MethodName) prog_1_method_6_code (6 : Nat) (Option.some Jvm.ClassFile.FieldType.int)) ∈ cb_TB := cb_i3 24 rfl rfl
theorem cw_505 : (Jvm.Cond.methodLinkNest "CauseBook" (177 : Nat) ({ cls := "CauseBook$Model", name := "addRule", desc := "(IIIII)V" } : Jvm.MethodName) "CauseBook") ∈ cb_TB := cb_i3 25 rfl rfl
theorem cw_507 : (Jvm.Cond.instanceMethod ({ cls := "CauseBook$Model", name := "addRule", desc := "(IIIII)V" } : Jvm.MethodName)) ∈ cb_TB := cb_i3 27 rfl rfl
theorem cw_508 : (Jvm.Cond.code ({ cls := "CauseBook$Model", name := "addRule", desc := "(IIIII)V" } : Jvm.MethodName) prog_7_method_14_code (7 : Nat) (Option.none : Option Jvm.ClassFile.FieldType)) ∈ cb_TB := cb_i3 28 rfl rfl
theorem cw_510 : (Jvm.Cond.instanceMethod ({ cls := "CauseBook", name := "drop", desc := "(I)I" } : Jvm.MethodName)) ∈ cb_TB := cb_i3 30 rfl rfl
theorem cw_511 : (Jvm.Cond.selects "CauseBook" ({ cls := "CauseBook", name := "drop", desc := "(I)I" } : Jvm.MethodName) ({ cls := "CauseBook", name := "drop", desc := "(I)I" } : Jvm.MethodName)) ∈ cb_TB := cb_i3 31 rfl rfl
theorem cw_512 : (Jvm.Cond.code ({ cls := "CauseBook", name := "drop", desc := "(I)I" } : Jvm.MethodName) prog_1_method_7_code (2 : Nat) (Option.some Jvm.ClassFile.FieldType.int)) ∈ cb_TB := cb_i3 32 rfl rfl
theorem cw_513 : (Jvm.Cond.methodLinkNest "CauseBook" (181 : Nat) ({ cls := "CauseBook$Model", name := "removeRule", desc := "(I)V" } : Jvm.MethodName) "CauseBook") ∈ cb_TB := cb_i3 33 rfl rfl
theorem cw_515 : (Jvm.Cond.instanceMethod ({ cls := "CauseBook$Model", name := "removeRule", desc := "(I)V" } : Jvm.MethodName)) ∈ cb_TB := cb_i3 35 rfl rfl
theorem cw_516 : (Jvm.Cond.code ({ cls := "CauseBook$Model", name := "removeRule", desc := "(I)V" } : Jvm.MethodName) prog_7_method_15_code (2 : Nat) (Option.none : Option Jvm.ClassFile.FieldType)) ∈ cb_TB := cb_i3 36 rfl rfl
theorem cw_518 : (Jvm.Cond.instanceMethod ({ cls := "CauseBook", name := "cause", desc := "(III)I" } : Jvm.MethodName)) ∈ cb_TB := cb_i3 38 rfl rfl
theorem cw_519 : (Jvm.Cond.selects "CauseBook" ({ cls := "CauseBook", name := "cause", desc := "(III)I" } : Jvm.MethodName) ({ cls := "CauseBook", name := "cause", desc := "(III)I" } : Jvm.MethodName)) ∈ cb_TB := cb_i3 39 rfl rfl
theorem cw_520 : (Jvm.Cond.code ({ cls := "CauseBook", name := "cause", desc := "(III)I" } : Jvm.MethodName) prog_1_method_8_code (6 : Nat) (Option.some Jvm.ClassFile.FieldType.int)) ∈ cb_TB := cb_i3 40 rfl rfl
theorem cw_521 : (Jvm.Cond.methodLinkNest "CauseBook" (184 : Nat) ({ cls := "CauseBook$Model", name := "objectsOf", desc := "(I)I" } : Jvm.MethodName) "CauseBook") ∈ cb_TB := cb_i3 41 rfl rfl
theorem cw_523 : (Jvm.Cond.instanceMethod ({ cls := "CauseBook$Model", name := "objectsOf", desc := "(I)I" } : Jvm.MethodName)) ∈ cb_TB := cb_i3 43 rfl rfl
theorem cw_524 : (Jvm.Cond.code ({ cls := "CauseBook$Model", name := "objectsOf", desc := "(I)I" } : Jvm.MethodName) prog_7_method_4_code (4 : Nat) (Option.some Jvm.ClassFile.FieldType.int)) ∈ cb_TB := cb_i3 44 rfl rfl
theorem cw_526 : (Jvm.Cond.instanceMethod ({ cls := "CauseBook", name := "sign", desc := "(II)I" } : Jvm.MethodName)) ∈ cb_TB := cb_i3 46 rfl rfl
theorem cw_527 : (Jvm.Cond.selects "CauseBook" ({ cls := "CauseBook", name := "sign", desc := "(II)I" } : Jvm.MethodName) ({ cls := "CauseBook", name := "sign", desc := "(II)I" } : Jvm.MethodName)) ∈ cb_TB := cb_i3 47 rfl rfl
theorem cw_528 : (Jvm.Cond.code ({ cls := "CauseBook", name := "sign", desc := "(II)I" } : Jvm.MethodName) prog_1_method_9_code (5 : Nat) (Option.some Jvm.ClassFile.FieldType.int)) ∈ cb_TB := cb_i3 48 rfl rfl
theorem cw_530 : (Jvm.Cond.instanceMethod ({ cls := "CauseBook", name := "reduce", desc := "(I)I" } : Jvm.MethodName)) ∈ cb_TB := cb_i3 50 rfl rfl
theorem cw_531 : (Jvm.Cond.selects "CauseBook" ({ cls := "CauseBook", name := "reduce", desc := "(I)I" } : Jvm.MethodName) ({ cls := "CauseBook", name := "reduce", desc := "(I)I" } : Jvm.MethodName)) ∈ cb_TB := cb_i3 51 rfl rfl
theorem cw_532 : (Jvm.Cond.code ({ cls := "CauseBook", name := "reduce", desc := "(I)I" } : Jvm.MethodName) prog_1_method_10_code (2 : Nat) (Option.some Jvm.ClassFile.FieldType.int)) ∈ cb_TB := cb_i3 52 rfl rfl
theorem cw_533 : (Jvm.Cond.methodLinkNest "CauseBook" (187 : Nat) ({ cls := "CauseBook$Codes", name := "renew", desc := "()V" } : Jvm.MethodName) "CauseBook") ∈ cb_TB := cb_i3 53 rfl rfl
theorem cw_535 : (Jvm.Cond.instanceMethod ({ cls := "CauseBook$Codes", name := "renew", desc := "()V" } : Jvm.MethodName)) ∈ cb_TB := cb_i3 55 rfl rfl
theorem cw_536 : (Jvm.Cond.code ({ cls := "CauseBook$Codes", name := "renew", desc := "()V" } : Jvm.MethodName) prog_4_method_4_code (3 : Nat) (Option.none : Option Jvm.ClassFile.FieldType)) ∈ cb_TB := cb_i3 56 rfl rfl
theorem cw_537 : (Jvm.Cond.methodLinkNest "CauseBook$Codes" (71 : Nat) ({ cls := "CauseBook$Spreader", name := "readLinks", desc := "(I)V" } : Jvm.MethodName) "CauseBook") ∈ cb_TB := cb_i3 57 rfl rfl
theorem cw_539 : (Jvm.Cond.instanceMethod ({ cls := "CauseBook$Spreader", name := "readLinks", desc := "(I)V" } : Jvm.MethodName)) ∈ cb_TB := cb_i3 59 rfl rfl
theorem cw_540 : (Jvm.Cond.code ({ cls := "CauseBook$Spreader", name := "readLinks", desc := "(I)V" } : Jvm.MethodName) prog_11_method_2_code (6 : Nat) (Option.none : Option Jvm.ClassFile.FieldType)) ∈ cb_TB := cb_i3 60 rfl rfl
theorem cw_541 : (Jvm.Cond.methodLink "CauseBook$Spreader" (35 : Nat) ({ cls := "java/util/Arrays", name := "fill", desc := "([II)V" } : Jvm.MethodName)) ∈ cb_TB := cb_i3 61 rfl rfl
theorem cw_542 : (Jvm.Cond.static ({ cls := "java/util/Arrays", name := "fill", desc := "([II)V" } : Jvm.MethodName)) ∈ cb_TB := cb_i3 62 rfl rfl
theorem cw_543 : (Jvm.Cond.code ({ cls := "java/util/Arrays", name := "fill", desc := "([II)V" } : Jvm.MethodName) prog_17_method_103_code (4 : Nat) (Option.none : Option Jvm.ClassFile.FieldType)) ∈ cb_TB := cb_i3 63 rfl rfl
theorem cw_544 : (Jvm.Cond.methodLinkNest "CauseBook$Spreader" (47 : Nat) ({ cls := "CauseBook$Model", name := "linkPart", desc := "(II)I" } : Jvm.MethodName) "CauseBook") ∈ cb_TB := cb_i3 64 rfl rfl
theorem cw_545 : (Jvm.Cond.methodLinkNest "CauseBook$Codes" (75 : Nat) ({ cls := "CauseBook$Spreader", name := "flow", desc := "(I)V" } : Jvm.MethodName) "CauseBook") ∈ cb_TB := cb_i3 65 rfl rfl
theorem cw_547 : (Jvm.Cond.instanceMethod ({ cls := "CauseBook$Spreader", name := "flow", desc := "(I)V" } : Jvm.MethodName)) ∈ cb_TB := cb_i3 67 rfl rfl
theorem cw_548 : (Jvm.Cond.code ({ cls := "CauseBook$Spreader", name := "flow", desc := "(I)V" } : Jvm.MethodName) prog_11_method_3_code (5 : Nat) (Option.none : Option Jvm.ClassFile.FieldType)) ∈ cb_TB := cb_i3 68 rfl rfl
theorem cw_549 : (Jvm.Cond.constant "CauseBook$Spreader" (57 : Nat) (1000000 : Int32)) ∈ cb_TB := cb_i3 69 rfl rfl
theorem cw_550 : (Jvm.Cond.methodLinkNest "CauseBook$Spreader" (66 : Nat) ({ cls := "CauseBook", name := "has", desc := "(II)Z" } : Jvm.MethodName) "CauseBook") ∈ cb_TB := cb_i3 70 rfl rfl
theorem cw_551 : (Jvm.Cond.static ({ cls := "CauseBook", name := "has", desc := "(II)Z" } : Jvm.MethodName)) ∈ cb_TB := cb_i3 71 rfl rfl
theorem cw_552 : (Jvm.Cond.code ({ cls := "CauseBook", name := "has", desc := "(II)Z" } : Jvm.MethodName) prog_1_method_49_code (2 : Nat) (Option.some Jvm.ClassFile.FieldType.boolean)) ∈ cb_TB := cb_i3 72 rfl rfl
theorem cw_553 : (Jvm.Cond.methodLink "CauseBook$Spreader" (75 : Nat) ({ cls := "CauseBook$Spreader", name := "bring", desc := "(III)V" } : Jvm.MethodName)) ∈ cb_TB := cb_i3 73 rfl rfl
theorem cw_555 : (Jvm.Cond.instanceMethod ({ cls := "CauseBook$Spreader", name := "bring", desc := "(III)V" } : Jvm.MethodName)) ∈ cb_TB := cb_i3 75 rfl rfl
theorem cw_556 : (Jvm.Cond.code ({ cls := "CauseBook$Spreader", name := "bring", desc := "(III)V" } : Jvm.MethodName) prog_11_method_4_code (5 : Nat) (Option.none : Option Jvm.ClassFile.FieldType)) ∈ cb_TB := cb_i3 76 rfl rfl
theorem cw_557 : (Jvm.Cond.methodLinkNest "CauseBook$Spreader" (82 : Nat) ({ cls := "CauseBook$Model", name := "ruleEvent", desc := "(II)I" } : Jvm.MethodName) "CauseBook") ∈ cb_TB := cb_i3 77 rfl rfl
theorem cw_559 : (Jvm.Cond.instanceMethod ({ cls := "CauseBook$Model", name := "ruleEvent", desc := "(II)I" } : Jvm.MethodName)) ∈ cb_TB := cb_i3 79 rfl rfl
theorem cw_560 : (Jvm.Cond.code ({ cls := "CauseBook$Model", name := "ruleEvent", desc := "(II)I" } : Jvm.MethodName) prog_7_method_13_code (3 : Nat) (Option.some Jvm.ClassFile.FieldType.int)) ∈ cb_TB := cb_i3 80 rfl rfl
theorem cw_561 : (Jvm.Cond.methodLink "CauseBook$Spreader" (85 : Nat) ({ cls := "CauseBook$Spreader", name := "apply", desc := "(I)V" } : Jvm.MethodName)) ∈ cb_TB := cb_i3 81 rfl rfl
theorem cw_563 : (Jvm.Cond.instanceMethod ({ cls := "CauseBook$Spreader", name := "apply", desc := "(I)V" } : Jvm.MethodName)) ∈ cb_TB := cb_i3 83 rfl rfl
theorem cw_564 : (Jvm.Cond.code ({ cls := "CauseBook$Spreader", name := "apply", desc := "(I)V" } : Jvm.MethodName) prog_11_method_5_code (2 : Nat) (Option.none : Option Jvm.ClassFile.FieldType)) ∈ cb_TB := cb_i3 84 rfl rfl
theorem cw_565 : (Jvm.Cond.methodLinkNest "CauseBook$Spreader" (93 : Nat) ({ cls := "CauseBook$Model", name := "rulePart", desc := "(II)I" } : Jvm.MethodName) "CauseBook") ∈ cb_TB := cb_i3 85 rfl rfl
theorem cw_567 : (Jvm.Cond.instanceMethod ({ cls := "CauseBook$Model", name := "rulePart", desc := "(II)I" } : Jvm.MethodName)) ∈ cb_TB := cb_i3 87 rfl rfl
theorem cw_568 : (Jvm.Cond.code ({ cls := "CauseBook$Model", name := "rulePart", desc := "(II)I" } : Jvm.MethodName) prog_7_method_11_code (3 : Nat) (Option.some Jvm.ClassFile.FieldType.int)) ∈ cb_TB := cb_i3 88 rfl rfl
theorem cw_569 : (Jvm.Cond.methodLink "CauseBook$Spreader" (96 : Nat) ({ cls := "CauseBook$Spreader", name := "applySame", desc := "(I)V" } : Jvm.MethodName)) ∈ cb_TB := cb_i3 89 rfl rfl
theorem cw_571 : (Jvm.Cond.instanceMethod ({ cls := "CauseBook$Spreader", name := "applySame", desc := "(I)V" } : Jvm.MethodName)) ∈ cb_TB := cb_i3 91 rfl rfl
theorem cw_572 : (Jvm.Cond.code ({ cls := "CauseBook$Spreader", name := "applySame", desc := "(I)V" } : Jvm.MethodName) prog_11_method_6_code (7 : Nat) (Option.none : Option Jvm.ClassFile.FieldType)) ∈ cb_TB := cb_i3 92 rfl rfl
theorem cw_573 : (Jvm.Cond.methodLinkNest "CauseBook$Spreader" (106 : Nat) ({ cls := "CauseBook$Model", name := "ruleKind", desc := "(II)I" } : Jvm.MethodName) "CauseBook") ∈ cb_TB := cb_i3 93 rfl rfl
theorem cw_575 : (Jvm.Cond.instanceMethod ({ cls := "CauseBook$Model", name := "ruleKind", desc := "(II)I" } : Jvm.MethodName)) ∈ cb_TB := cb_i3 95 rfl rfl
theorem cw_576 : (Jvm.Cond.code ({ cls := "CauseBook$Model", name := "ruleKind", desc := "(II)I" } : Jvm.MethodName) prog_7_method_12_code (3 : Nat) (Option.some Jvm.ClassFile.FieldType.int)) ∈ cb_TB := cb_i3 96 rfl rfl
theorem cw_577 : (Jvm.Cond.methodLink "CauseBook$Spreader" (109 : Nat) ({ cls := "CauseBook$Spreader", name := "timeOf", desc := "(II)I" } : Jvm.MethodName)) ∈ cb_TB := cb_i3 97 rfl rfl
theorem cw_579 : (Jvm.Cond.instanceMethod ({ cls := "CauseBook$Spreader", name := "timeOf", desc := "(II)I" } : Jvm.MethodName)) ∈ cb_TB := cb_i3 99 rfl rfl
theorem cw_580 : (Jvm.Cond.code ({ cls := "CauseBook$Spreader", name := "timeOf", desc := "(II)I" } : Jvm.MethodName) prog_11_method_11_code (3 : Nat) (Option.some Jvm.ClassFile.FieldType.int)) ∈ cb_TB := cb_i3 100 rfl rfl
theorem cw_581 : (Jvm.Cond.methodLink "CauseBook$Spreader" (99 : Nat) ({ cls := "CauseBook$Spreader", name := "applyOver", desc := "(I[I)V" } : Jvm.MethodName)) ∈ cb_TB := cb_i3 101 rfl rfl
theorem cw_583 : (Jvm.Cond.instanceMethod ({ cls := "CauseBook$Spreader", name := "applyOver", desc := "(I[I)V" } : Jvm.MethodName)) ∈ cb_TB := cb_i3 103 rfl rfl
theorem cw_584 : (Jvm.Cond.code ({ cls := "CauseBook$Spreader", name := "applyOver", desc := "(I[I)V" } : Jvm.MethodName) prog_11_method_7_code (12 : Nat) (Option.none : Option Jvm.ClassFile.FieldType)) ∈ cb_TB := cb_i3 104 rfl rfl
theorem cw_585 : (Jvm.Cond.methodLink "CauseBook$Spreader" (103 : Nat) ({ cls := "CauseBook$Spreader", name := "applyOfSeveral", desc := "(I)V" } : Jvm.MethodName)) ∈ cb_TB := cb_i3 105 rfl rfl
theorem cw_587 : (Jvm.Cond.instanceMethod ({ cls := "CauseBook$Spreader", name := "applyOfSeveral", desc := "(I)V" } : Jvm.MethodName)) ∈ cb_TB := cb_i3 107 rfl rfl
theorem cw_588 : (Jvm.Cond.code ({ cls := "CauseBook$Spreader", name := "applyOfSeveral", desc := "(I)V" } : Jvm.MethodName) prog_11_method_8_code (12 : Nat) (Option.none : Option Jvm.ClassFile.FieldType)) ∈ cb_TB := cb_i3 108 rfl rfl
theorem cw_589 : (Jvm.Cond.methodLink "CauseBook$Spreader" (112 : Nat) ({ cls := "CauseBook$Spreader", name := "lastOf", desc := "(II)I" } : Jvm.MethodName)) ∈ cb_TB := cb_i3 109 rfl rfl
theorem cw_591 : (Jvm.Cond.instanceMethod ({ cls := "CauseBook$Spreader", name := "lastOf", desc := "(II)I" } : Jvm.MethodName)) ∈ cb_TB := cb_i3 111 rfl rfl
theorem cw_592 : (Jvm.Cond.code ({ cls := "CauseBook$Spreader", name := "lastOf", desc := "(II)I" } : Jvm.MethodName) prog_11_method_9_code (5 : Nat) (Option.some Jvm.ClassFile.FieldType.int)) ∈ cb_TB := cb_i3 112 rfl rfl
theorem cw_593 : (Jvm.Cond.methodLink "CauseBook$Spreader" (118 : Nat) ({ cls := "java/lang/Math", name := "max", desc := "(II)I" } : Jvm.MethodName)) ∈ cb_TB := cb_i3 113 rfl rfl
theorem cw_594 : (Jvm.Cond.static ({ cls := "java/lang/Math", name := "max", desc := "(II)I" } : Jvm.MethodName)) ∈ cb_TB := cb_i3 114 rfl rfl
theorem cw_595 : (Jvm.Cond.code ({ cls := "java/lang/Math", name := "max", desc := "(II)I" } : Jvm.MethodName) prog_15_method_65_code (2 : Nat) (Option.some Jvm.ClassFile.FieldType.int)) ∈ cb_TB := cb_i3 115 rfl rfl
theorem cw_596 : (Jvm.Cond.methodLink "CauseBook$Spreader" (115 : Nat) ({ cls := "CauseBook$Spreader", name := "secondOf", desc := "(II)I" } : Jvm.MethodName)) ∈ cb_TB := cb_i3 116 rfl rfl
theorem cw_598 : (Jvm.Cond.instanceMethod ({ cls := "CauseBook$Spreader", name := "secondOf", desc := "(II)I" } : Jvm.MethodName)) ∈ cb_TB := cb_i3 118 rfl rfl
theorem cw_599 : (Jvm.Cond.code ({ cls := "CauseBook$Spreader", name := "secondOf", desc := "(II)I" } : Jvm.MethodName) prog_11_method_10_code (7 : Nat) (Option.some Jvm.ClassFile.FieldType.int)) ∈ cb_TB := cb_i3 119 rfl rfl
theorem cw_600 : (Jvm.Cond.methodLink "CauseBook$Spreader" (123 : Nat) ({ cls := "java/lang/Integer", name := "bitCount", desc := "(I)I" } : Jvm.MethodName)) ∈ cb_TB := cb_i3 120 rfl rfl
theorem cw_601 : (Jvm.Cond.static ({ cls := "java/lang/Integer", name := "bitCount", desc := "(I)I" } : Jvm.MethodName)) ∈ cb_TB := cb_i3 121 rfl rfl
theorem cw_602 : (Jvm.Cond.code ({ cls := "java/lang/Integer", name := "bitCount", desc := "(I)I" } : Jvm.MethodName) prog_14_method_49_code (1 : Nat) (Option.some Jvm.ClassFile.FieldType.int)) ∈ cb_TB := cb_i3 122 rfl rfl
theorem cw_603 : (Jvm.Cond.constant "java/lang/Integer" (265 : Nat) (1431655765 : Int32)) ∈ cb_TB := cb_i3 123 rfl rfl
theorem cw_604 : (Jvm.Cond.constant "java/lang/Integer" (266 : Nat) (858993459 : Int32)) ∈ cb_TB := cb_i3 124 rfl rfl
theorem cw_605 : (Jvm.Cond.constant "java/lang/Integer" (267 : Nat) (252645135 : Int32)) ∈ cb_TB := cb_i3 125 rfl rfl
theorem cw_606 : (Jvm.Cond.methodLink "CauseBook$Spreader" (129 : Nat) ({ cls := "java/lang/Math", name := "min", desc := "(II)I" } : Jvm.MethodName)) ∈ cb_TB := cb_i3 126 rfl rfl
theorem cw_607 : (Jvm.Cond.methodLink "CauseBook$Codes" (78 : Nat) ({ cls := "CauseBook$Codes", name := "codeOfFlow", desc := "()I" } : Jvm.MethodName)) ∈ cb_TB := cb_i3 127 rfl rfl
theorem cw_609 : (Jvm.Cond.instanceMethod ({ cls := "CauseBook$Codes", name := "codeOfFlow", desc := "()I" } : Jvm.MethodName)) ∈ cb_TB := cb_i3 129 rfl rfl
theorem cw_610 : (Jvm.Cond.code ({ cls := "CauseBook$Codes", name := "codeOfFlow", desc := "()I" } : Jvm.MethodName) prog_4_method_3_code (3 : Nat) (Option.some Jvm.ClassFile.FieldType.int)) ∈ cb_TB := cb_i3 130 rfl rfl
theorem cw_611 : (Jvm.Cond.methodLinkNest "CauseBook$Codes" (64 : Nat) ({ cls := "CauseBook$Spreader", name := "timeOf", desc := "(II)I" } : Jvm.MethodName) "CauseBook") ∈ cb_TB := cb_i3 131 rfl rfl
theorem cw_612 : (Jvm.Cond.constant "CauseBook$Codes" (70 : Nat) (1000000 : Int32)) ∈ cb_TB := cb_i3 132 rfl rfl
theorem cw_613 : (Jvm.Cond.methodLinkNest "CauseBook" (190 : Nat) ({ cls := "CauseBook$Reducer", name := "fewestSigns", desc := "(I)I" } : Jvm.MethodName) "CauseBook") ∈ cb_TB := cb_i3 133 rfl rfl
theorem cw_615 : (Jvm.Cond.instanceMethod ({ cls := "CauseBook$Reducer", name := "fewestSigns", desc := "(I)I" } : Jvm.MethodName)) ∈ cb_TB := cb_i3 135 rfl rfl
theorem cw_616 : (Jvm.Cond.code ({ cls := "CauseBook$Reducer", name := "fewestSigns", desc := "(I)I" } : Jvm.MethodName) prog_8_method_2_code (6 : Nat) (Option.some Jvm.ClassFile.FieldType.int)) ∈ cb_TB := cb_i3 136 rfl rfl
theorem cw_617 : (Jvm.Cond.methodLink "CauseBook$Reducer" (22 : Nat) ({ cls := "CauseBook$Reducer", name := "listPairs", desc := "(I)V" } : Jvm.MethodName)) ∈ cb_TB := cb_i3 137 rfl rfl
theorem cw_619 : (Jvm.Cond.instanceMethod ({ cls := "CauseBook$Reducer", name := "listPairs", desc := "(I)V" } : Jvm.MethodName)) ∈ cb_TB := cb_i3 139 rfl rfl
theorem cw_620 : (Jvm.Cond.code ({ cls := "CauseBook$Reducer", name := "listPairs", desc := "(I)V" } : Jvm.MethodName) prog_8_method_3_code (4 : Nat) (Option.none : Option Jvm.ClassFile.FieldType)) ∈ cb_TB := cb_i3 140 rfl rfl
theorem cw_621 : (Jvm.Cond.methodLink "CauseBook$Reducer" (60 : Nat) ({ cls := "CauseBook$Reducer", name := "addPair", desc := "(II)V" } : Jvm.MethodName)) ∈ cb_TB := cb_i3 141 rfl rfl
theorem cw_623 : (Jvm.Cond.instanceMethod ({ cls := "CauseBook$Reducer", name := "addPair", desc := "(II)V" } : Jvm.MethodName)) ∈ cb_TB := cb_i3 143 rfl rfl
theorem cw_624 : (Jvm.Cond.code ({ cls := "CauseBook$Reducer", name := "addPair", desc := "(II)V" } : Jvm.MethodName) prog_8_method_4_code (3 : Nat) (Option.none : Option Jvm.ClassFile.FieldType)) ∈ cb_TB := cb_i3 144 rfl rfl
theorem cw_625 : (Jvm.Cond.methodLink "CauseBook$Reducer" (41 : Nat) ({ cls := "java/lang/Integer", name := "bitCount", desc := "(I)I" } : Jvm.MethodName)) ∈ cb_TB := cb_i3 145 rfl rfl
theorem cw_626 : (Jvm.Cond.methodLink "CauseBook$Reducer" (47 : Nat) ({ cls := "CauseBook$Reducer", name := "keepsApart", desc := "(I)Z" } : Jvm.MethodName)) ∈ cb_TB := cb_i3 146 rfl rfl
theorem cw_628 : (Jvm.Cond.instanceMethod ({ cls := "CauseBook$Reducer", name := "keepsApart", desc := "(I)Z" } : Jvm.MethodName)) ∈ cb_TB := cb_i3 148 rfl rfl
theorem cw_629 : (Jvm.Cond.code ({ cls := "CauseBook$Reducer", name := "keepsApart", desc := "(I)Z" } : Jvm.MethodName) prog_8_method_5_code (3 : Nat) (Option.some Jvm.ClassFile.FieldType.boolean)) ∈ cb_TB := cb_i3 149 rfl rfl
theorem cw_630 : (Jvm.Cond.methodLink "CauseBook" (196 : Nat) ({ cls := "java/lang/Integer", name := "bitCount", desc := "(I)I" } : Jvm.MethodName)) ∈ cb_TB := cb_i3 150 rfl rfl
theorem cw_632 : (Jvm.Cond.instanceMethod ({ cls := "CauseBook", name := "book", desc := "(I)I" } : Jvm.MethodName)) ∈ cb_TB := cb_i3 152 rfl rfl
theorem cw_633 : (Jvm.Cond.selects "CauseBook" ({ cls := "CauseBook", name := "book", desc := "(I)I" } : Jvm.MethodName) ({ cls := "CauseBook", name := "book", desc := "(I)I" } : Jvm.MethodName)) ∈ cb_TB := cb_i3 153 rfl rfl
theorem cw_634 : (Jvm.Cond.code ({ cls := "CauseBook", name := "book", desc := "(I)I" } : Jvm.MethodName) prog_1_method_11_code (2 : Nat) (Option.some Jvm.ClassFile.FieldType.int)) ∈ cb_TB := cb_i3 154 rfl rfl
theorem cw_636 : (Jvm.Cond.instanceMethod ({ cls := "CauseBook", name := "see", desc := "(I)I" } : Jvm.MethodName)) ∈ cb_TB := cb_i3 156 rfl rfl
theorem cw_637 : (Jvm.Cond.selects "CauseBook" ({ cls := "CauseBook", name := "see", desc := "(I)I" } : Jvm.MethodName) ({ cls := "CauseBook", name := "see", desc := "(I)I" } : Jvm.MethodName)) ∈ cb_TB := cb_i3 157 rfl rfl
theorem cw_638 : (Jvm.Cond.code ({ cls := "CauseBook", name := "see", desc := "(I)I" } : Jvm.MethodName) prog_1_method_12_code (3 : Nat) (Option.some Jvm.ClassFile.FieldType.int)) ∈ cb_TB := cb_i3 158 rfl rfl
theorem cw_640 : (Jvm.Cond.instanceMethod ({ cls := "CauseBook", name := "note", desc := "(II)I" } : Jvm.MethodName)) ∈ cb_TB := cb_i3 160 rfl rfl
theorem cw_641 : (Jvm.Cond.selects "CauseBook" ({ cls := "CauseBook", name := "note", desc := "(II)I" } : Jvm.MethodName) ({ cls := "CauseBook", name := "note", desc := "(II)I" } : Jvm.MethodName)) ∈ cb_TB := cb_i3 161 rfl rfl
theorem cw_642 : (Jvm.Cond.code ({ cls := "CauseBook", name := "note", desc := "(II)I" } : Jvm.MethodName) prog_1_method_13_code (3 : Nat) (Option.some Jvm.ClassFile.FieldType.int)) ∈ cb_TB := cb_i3 162 rfl rfl
theorem cw_643 : (Jvm.Cond.methodLinkNest "CauseBook" (207 : Nat) ({ cls := "CauseBook$Model", name := "addEntry", desc := "(II)V" } : Jvm.MethodName) "CauseBook") ∈ cb_TB := cb_i3 163 rfl rfl
theorem cw_645 : (Jvm.Cond.instanceMethod ({ cls := "CauseBook$Model", name := "addEntry", desc := "(II)V" } : Jvm.MethodName)) ∈ cb_TB := cb_i3 165 rfl rfl
theorem cw_646 : (Jvm.Cond.code ({ cls := "CauseBook$Model", name := "addEntry", desc := "(II)V" } : Jvm.MethodName) prog_7_method_17_code (3 : Nat) (Option.none : Option Jvm.ClassFile.FieldType)) ∈ cb_TB := cb_i3 166 rfl rfl
theorem cw_648 : (Jvm.Cond.instanceMethod ({ cls := "CauseBook", name := "clear", desc := "()I" } : Jvm.MethodName)) ∈ cb_TB := cb_i3 168 rfl rfl
theorem cw_649 : (Jvm.Cond.selects "CauseBook" ({ cls := "CauseBook", name := "clear", desc := "()I" } : Jvm.MethodName) ({ cls := "CauseBook", name := "clear", desc := "()I" } : Jvm.MethodName)) ∈ cb_TB := cb_i3 169 rfl rfl
theorem cw_650 : (Jvm.Cond.code ({ cls := "CauseBook", name := "clear", desc := "()I" } : Jvm.MethodName) prog_1_method_14_code (2 : Nat) (Option.some Jvm.ClassFile.FieldType.int)) ∈ cb_TB := cb_i3 170 rfl rfl
theorem cw_652 : (Jvm.Cond.instanceMethod ({ cls := "CauseBook", name := "window", desc := "(II)I" } : Jvm.MethodName)) ∈ cb_TB := cb_i3 172 rfl rfl
theorem cw_653 : (Jvm.Cond.selects "CauseBook" ({ cls := "CauseBook", name := "window", desc := "(II)I" } : Jvm.MethodName) ({ cls := "CauseBook", name := "window", desc := "(II)I" } : Jvm.MethodName)) ∈ cb_TB := cb_i3 173 rfl rfl
theorem cw_654 : (Jvm.Cond.code ({ cls := "CauseBook", name := "window", desc := "(II)I" } : Jvm.MethodName) prog_1_method_15_code (3 : Nat) (Option.some Jvm.ClassFile.FieldType.int)) ∈ cb_TB := cb_i3 174 rfl rfl
theorem cw_655 : (Jvm.Cond.methodLink "CauseBook" (215 : Nat) ({ cls := "CauseBook", name := "isWidth", desc := "(I)Z" } : Jvm.MethodName)) ∈ cb_TB := cb_i3 175 rfl rfl
theorem cw_656 : (Jvm.Cond.static ({ cls := "CauseBook", name := "isWidth", desc := "(I)Z" } : Jvm.MethodName)) ∈ cb_TB := cb_i3 176 rfl rfl
theorem cw_657 : (Jvm.Cond.code ({ cls := "CauseBook", name := "isWidth", desc := "(I)Z" } : Jvm.MethodName) prog_1_method_51_code (1 : Nat) (Option.some Jvm.ClassFile.FieldType.boolean)) ∈ cb_TB := cb_i3 177 rfl rfl
theorem cw_658 : (Jvm.Cond.methodLinkNest "CauseBook" (219 : Nat) ({ cls := "CauseBook$Chronicle", name := "signsWithin", desc := "(II)I" } : Jvm.MethodName) "CauseBook") ∈ cb_TB := cb_i3 178 rfl rfl
theorem cw_660 : (Jvm.Cond.instanceMethod ({ cls := "CauseBook$Chronicle", name := "signsWithin", desc := "(II)I" } : Jvm.MethodName)) ∈ cb_TB := cb_i3 180 rfl rfl
theorem cw_661 : (Jvm.Cond.code ({ cls := "CauseBook$Chronicle", name := "signsWithin", desc := "(II)I" } : Jvm.MethodName) prog_3_method_2_code (6 : Nat) (Option.some Jvm.ClassFile.FieldType.int)) ∈ cb_TB := cb_i3 181 rfl rfl
theorem cw_663 : (Jvm.Cond.instanceMethod ({ cls := "CauseBook", name := "undo", desc := "()I" } : Jvm.MethodName)) ∈ cb_TB := cb_i3 183 rfl rfl
theorem cw_664 : (Jvm.Cond.selects "CauseBook" ({ cls := "CauseBook", name := "undo", desc := "()I" } : Jvm.MethodName) ({ cls := "CauseBook", name := "undo", desc := "()I" } : Jvm.MethodName)) ∈ cb_TB := cb_i3 184 rfl rfl
theorem cw_665 : (Jvm.Cond.code ({ cls := "CauseBook", name := "undo", desc := "()I" } : Jvm.MethodName) prog_1_method_16_code (2 : Nat) (Option.some Jvm.ClassFile.FieldType.int)) ∈ cb_TB := cb_i3 185 rfl rfl
theorem cw_666 : (Jvm.Cond.methodLinkNest "CauseBook" (224 : Nat) ({ cls := "CauseBook$History", name := "takeBack", desc := "(LCauseBook$Model;)I" } : Jvm.MethodName) "CauseBook") ∈ cb_TB := cb_i3 186 rfl rfl
theorem cw_668 : (Jvm.Cond.instanceMethod ({ cls := "CauseBook$History", name := "takeBack", desc := "(LCauseBook$Model;)I" } : Jvm.MethodName)) ∈ cb_TB := cb_i3 188 rfl rfl
theorem cw_669 : (Jvm.Cond.code ({ cls := "CauseBook$History", name := "takeBack", desc := "(LCauseBook$Model;)I" } : Jvm.MethodName) prog_6_method_3_code (2 : Nat) (Option.some Jvm.ClassFile.FieldType.int)) ∈ cb_TB := cb_i3 189 rfl rfl
theorem cw_671 : (Jvm.Cond.instanceMethod ({ cls := "CauseBook", name := "image", desc := "(I)I" } : Jvm.MethodName)) ∈ cb_TB := cb_i3 191 rfl rfl
theorem cw_672 : (Jvm.Cond.selects "CauseBook" ({ cls := "CauseBook", name := "image", desc := "(I)I" } : Jvm.MethodName) ({ cls := "CauseBook", name := "image", desc := "(I)I" } : Jvm.MethodName)) ∈ cb_TB := cb_i3 192 rfl rfl
theorem cw_673 : (Jvm.Cond.code ({ cls := "CauseBook", name := "image", desc := "(I)I" } : Jvm.MethodName) prog_1_method_17_code (2 : Nat) (Option.some Jvm.ClassFile.FieldType.int)) ∈ cb_TB := cb_i3 193 rfl rfl
theorem cw_674 : (Jvm.Cond.methodLinkNest "CauseBook" (228 : Nat) ({ cls := "CauseBook$Model", name := "copyFrom", desc := "(LCauseBook$Model;)V" } : Jvm.MethodName) "CauseBook") ∈ cb_TB := cb_i3 194 rfl rfl
theorem cw_676 : (Jvm.Cond.instanceMethod ({ cls := "CauseBook", name := "back", desc := "(I)I" } : Jvm.MethodName)) ∈ cb_TB := cb_i3 196 rfl rfl
theorem cw_677 : (Jvm.Cond.selects "CauseBook" ({ cls := "CauseBook", name := "back", desc := "(I)I" } : Jvm.MethodName) ({ cls := "CauseBook", name := "back", desc := "(I)I" } : Jvm.MethodName)) ∈ cb_TB := cb_i3 197 rfl rfl
theorem cw_678 : (Jvm.Cond.code ({ cls := "CauseBook", name := "back", desc := "(I)I" } : Jvm.MethodName) prog_1_method_18_code (2 : Nat) (Option.some Jvm.ClassFile.FieldType.int)) ∈ cb_TB := cb_i3 198 rfl rfl
theorem cw_680 : (Jvm.Cond.instanceMethod ({ cls := "CauseBook", name := "time", desc := "(III)I" } : Jvm.MethodName)) ∈ cb_TB := cb_i3 200 rfl rfl
theorem cw_681 : (Jvm.Cond.selects "CauseBook" ({ cls := "CauseBook", name := "time", desc := "(III)I" } : Jvm.MethodName) ({ cls := "CauseBook", name := "time", desc := "(III)I" } : Jvm.MethodName)) ∈ cb_TB := cb_i3 201 rfl rfl
theorem cw_682 : (Jvm.Cond.code ({ cls := "CauseBook", name := "time", desc := "(III)I" } : Jvm.MethodName) prog_1_method_19_code (5 : Nat) (Option.some Jvm.ClassFile.FieldType.int)) ∈ cb_TB := cb_i3 202 rfl rfl
theorem cw_683 : (Jvm.Cond.methodLink "CauseBook" (232 : Nat) ({ cls := "CauseBook", name := "noSuchCauses", desc := "(I)Z" } : Jvm.MethodName)) ∈ cb_TB := cb_i3 203 rfl rfl
theorem cw_685 : (Jvm.Cond.instanceMethod ({ cls := "CauseBook", name := "noSuchCauses", desc := "(I)Z" } : Jvm.MethodName)) ∈ cb_TB := cb_i3 205 rfl rfl
theorem cw_686 : (Jvm.Cond.code ({ cls := "CauseBook", name := "noSuchCauses", desc := "(I)Z" } : Jvm.MethodName) prog_1_method_53_code (2 : Nat) (Option.some Jvm.ClassFile.FieldType.boolean)) ∈ cb_TB := cb_i3 206 rfl rfl
theorem cw_687 : (Jvm.Cond.methodLinkNest "CauseBook" (235 : Nat) ({ cls := "CauseBook$Spreader", name := "readLinks", desc := "(I)V" } : Jvm.MethodName) "CauseBook") ∈ cb_TB := cb_i3 207 rfl rfl
theorem cw_688 : (Jvm.Cond.methodLinkNest "CauseBook" (238 : Nat) ({ cls := "CauseBook$Spreader", name := "flow", desc := "(I)V" } : Jvm.MethodName) "CauseBook") ∈ cb_TB := cb_i3 208 rfl rfl
theorem cw_689 : (Jvm.Cond.methodLinkNest "CauseBook" (241 : Nat) ({ cls := "CauseBook$Spreader", name := "timeOf", desc := "(II)I" } : Jvm.MethodName) "CauseBook") ∈ cb_TB := cb_i3 209 rfl rfl
theorem cw_690 : (Jvm.Cond.constant "CauseBook" (244 : Nat) (1000000 : Int32)) ∈ cb_TB := cb_i3 210 rfl rfl
theorem cw_692 : (Jvm.Cond.instanceMethod ({ cls := "CauseBook", name := "spread", desc := "(II)I" } : Jvm.MethodName)) ∈ cb_TB := cb_i3 212 rfl rfl
theorem cw_693 : (Jvm.Cond.selects "CauseBook" ({ cls := "CauseBook", name := "spread", desc := "(II)I" } : Jvm.MethodName) ({ cls := "CauseBook", name := "spread", desc := "(II)I" } : Jvm.MethodName)) ∈ cb_TB := cb_i3 213 rfl rfl
theorem cw_694 : (Jvm.Cond.code ({ cls := "CauseBook", name := "spread", desc := "(II)I" } : Jvm.MethodName) prog_1_method_20_code (3 : Nat) (Option.some Jvm.ClassFile.FieldType.int)) ∈ cb_TB := cb_i3 214 rfl rfl
theorem cw_695 : (Jvm.Cond.methodLinkNest "CauseBook" (245 : Nat) ({ cls := "CauseBook$Spreader", name := "factCount", desc := "()I" } : Jvm.MethodName) "CauseBook") ∈ cb_TB := cb_i3 215 rfl rfl
theorem cw_697 : (Jvm.Cond.instanceMethod ({ cls := "CauseBook$Spreader", name := "factCount", desc := "()I" } : Jvm.MethodName)) ∈ cb_TB := cb_i3 217 rfl rfl
theorem cw_698 : (Jvm.Cond.code ({ cls := "CauseBook$Spreader", name := "factCount", desc := "()I" } : Jvm.MethodName) prog_11_method_12_code (3 : Nat) (Option.some Jvm.ClassFile.FieldType.int)) ∈ cb_TB := cb_i3 218 rfl rfl
theorem cw_699 : (Jvm.Cond.methodLinkNest "CauseBook" (249 : Nat) ({ cls := "CauseBook$Spreader", name := "latest", desc := "()I" } : Jvm.MethodName) "CauseBook") ∈ cb_TB := cb_i3 219 rfl rfl
theorem cw_701 : (Jvm.Cond.instanceMethod ({ cls := "CauseBook$Spreader", name := "latest", desc := "()I" } : Jvm.MethodName)) ∈ cb_TB := cb_i3 221 rfl rfl
theorem cw_702 : (Jvm.Cond.code ({ cls := "CauseBook$Spreader", name := "latest", desc := "()I" } : Jvm.MethodName) prog_11_method_13_code (3 : Nat) (Option.some Jvm.ClassFile.FieldType.int)) ∈ cb_TB := cb_i3 222 rfl rfl
theorem cw_703 : (Jvm.Cond.methodLinkNest "CauseBook" (252 : Nat) ({ cls := "CauseBook$Spreader", name := "touched", desc := "()I" } : Jvm.MethodName) "CauseBook") ∈ cb_TB := cb_i3 223 rfl rfl
theorem cw_705 : (Jvm.Cond.instanceMethod ({ cls := "CauseBook$Spreader", name := "touched", desc := "()I" } : Jvm.MethodName)) ∈ cb_TB := cb_i3 225 rfl rfl
theorem cw_706 : (Jvm.Cond.code ({ cls := "CauseBook$Spreader", name := "touched", desc := "()I" } : Jvm.MethodName) prog_11_method_14_code (3 : Nat) (Option.some Jvm.ClassFile.FieldType.int)) ∈ cb_TB := cb_i3 226 rfl rfl
theorem cw_707 : (Jvm.Cond.methodLinkNest "CauseBook" (255 : Nat) ({ cls := "CauseBook$Spreader", name := "bringers", desc := "()I" } : Jvm.MethodName) "CauseBook") ∈ cb_TB := cb_i3 227 rfl rfl
theorem cw_709 : (Jvm.Cond.instanceMethod ({ cls := "CauseBook$Spreader", name := "bringers", desc := "()I" } : Jvm.MethodName)) ∈ cb_TB := cb_i3 229 rfl rfl
theorem cw_710 : (Jvm.Cond.code ({ cls := "CauseBook$Spreader", name := "bringers", desc := "()I" } : Jvm.MethodName) prog_11_method_15_code (3 : Nat) (Option.some Jvm.ClassFile.FieldType.int)) ∈ cb_TB := cb_i3 230 rfl rfl
theorem cw_712 : (Jvm.Cond.instanceMethod ({ cls := "CauseBook", name := "code", desc := "(I)I" } : Jvm.MethodName)) ∈ cb_TB := cb_i3 232 rfl rfl
theorem cw_713 : (Jvm.Cond.selects "CauseBook" ({ cls := "CauseBook", name := "code", desc := "(I)I" } : Jvm.MethodName) ({ cls := "CauseBook", name := "code", desc := "(I)I" } : Jvm.MethodName)) ∈ cb_TB := cb_i3 233 rfl rfl
theorem cw_714 : (Jvm.Cond.code ({ cls := "CauseBook", name := "code", desc := "(I)I" } : Jvm.MethodName) prog_1_method_21_code (2 : Nat) (Option.some Jvm.ClassFile.FieldType.int)) ∈ cb_TB := cb_i3 234 rfl rfl
theorem cw_715 : (Jvm.Cond.methodLinkNest "CauseBook" (258 : Nat) ({ cls := "CauseBook$Codes", name := "codeOfFlow", desc := "()I" } : Jvm.MethodName) "CauseBook") ∈ cb_TB := cb_i3 235 rfl rfl
theorem cw_717 : (Jvm.Cond.instanceMethod ({ cls := "CauseBook", name := "distance", desc := "(III)I" } : Jvm.MethodName)) ∈ cb_TB := cb_i3 237 rfl rfl
theorem cw_718 : (Jvm.Cond.selects "CauseBook" ({ cls := "CauseBook", name := "distance", desc := "(III)I" } : Jvm.MethodName) ({ cls := "CauseBook", name := "distance", desc := "(III)I" } : Jvm.MethodName)) ∈ cb_TB := cb_i3 238 rfl rfl
theorem cw_719 : (Jvm.Cond.code ({ cls := "CauseBook", name := "distance", desc := "(III)I" } : Jvm.MethodName) prog_1_method_22_code (7 : Nat) (Option.some Jvm.ClassFile.FieldType.int)) ∈ cb_TB := cb_i3 239 rfl rfl
theorem cw_720 : (Jvm.Cond.methodLink "CauseBook" (261 : Nat) ({ cls := "CauseBook", name := "noSuchCause", desc := "(I)Z" } : Jvm.MethodName)) ∈ cb_TB := cb_i4 0 rfl rfl
theorem cw_722 : (Jvm.Cond.instanceMethod ({ cls := "CauseBook", name := "noSuchCause", desc := "(I)Z" } : Jvm.MethodName)) ∈ cb_TB := cb_i4 2 rfl rfl
theorem cw_723 : (Jvm.Cond.code ({ cls := "CauseBook", name := "noSuchCause", desc := "(I)Z" } : Jvm.MethodName) prog_1_method_52_code (2 : Nat) (Option.some Jvm.ClassFile.FieldType.boolean)) ∈ cb_TB := cb_i4 3 rfl rfl
theorem cw_725 : (Jvm.Cond.instanceMethod ({ cls := "CauseBook", name := "nearest", desc := "(I)I" } : Jvm.MethodName)) ∈ cb_TB := cb_i4 5 rfl rfl
theorem cw_726 : (Jvm.Cond.selects "CauseBook" ({ cls := "CauseBook", name := "nearest", desc := "(I)I" } : Jvm.MethodName) ({ cls := "CauseBook", name := "nearest", desc := "(I)I" } : Jvm.MethodName)) ∈ cb_TB := cb_i4 6 rfl rfl
theorem cw_727 : (Jvm.Cond.code ({ cls := "CauseBook", name := "nearest", desc := "(I)I" } : Jvm.MethodName) prog_1_method_23_code (3 : Nat) (Option.some Jvm.ClassFile.FieldType.int)) ∈ cb_TB := cb_i4 7 rfl rfl
theorem cw_728 : (Jvm.Cond.methodLinkNest "CauseBook" (267 : Nat) ({ cls := "CauseBook$Decoder", name := "nearestTo", desc := "(I)I" } : Jvm.MethodName) "CauseBook") ∈ cb_TB := cb_i4 8 rfl rfl
theorem cw_730 : (Jvm.Cond.instanceMethod ({ cls := "CauseBook$Decoder", name := "nearestTo", desc := "(I)I" } : Jvm.MethodName)) ∈ cb_TB := cb_i4 10 rfl rfl
theorem cw_731 : (Jvm.Cond.code ({ cls := "CauseBook$Decoder", name := "nearestTo", desc := "(I)I" } : Jvm.MethodName) prog_5_method_3_code (5 : Nat) (Option.some Jvm.ClassFile.FieldType.int)) ∈ cb_TB := cb_i4 11 rfl rfl
theorem cw_732 : (Jvm.Cond.constant "CauseBook$Decoder" (31 : Nat) (1000000 : Int32)) ∈ cb_TB := cb_i4 12 rfl rfl
theorem cw_733 : (Jvm.Cond.methodLink "CauseBook$Decoder" (50 : Nat) ({ cls := "CauseBook$Decoder", name := "gap", desc := "(II)I" } : Jvm.MethodName)) ∈ cb_TB := cb_i4 13 rfl rfl
theorem cw_735 : (Jvm.Cond.instanceMethod ({ cls := "CauseBook$Decoder", name := "gap", desc := "(II)I" } : Jvm.MethodName)) ∈ cb_TB := cb_i4 15 rfl rfl
theorem cw_736 : (Jvm.Cond.code ({ cls := "CauseBook$Decoder", name := "gap", desc := "(II)I" } : Jvm.MethodName) prog_5_method_2_code (3 : Nat) (Option.some Jvm.ClassFile.FieldType.int)) ∈ cb_TB := cb_i4 16 rfl rfl
theorem cw_737 : (Jvm.Cond.methodLink "CauseBook$Decoder" (25 : Nat) ({ cls := "java/lang/Integer", name := "bitCount", desc := "(I)I" } : Jvm.MethodName)) ∈ cb_TB := cb_i4 17 rfl rfl
theorem cw_738 : (Jvm.Cond.methodLink "CauseBook" (273 : Nat) ({ cls := "CauseBook", name := "firstOf", desc := "(I)I" } : Jvm.MethodName)) ∈ cb_TB := cb_i4 18 rfl rfl
theorem cw_739 : (Jvm.Cond.static ({ cls := "CauseBook", name := "firstOf", desc := "(I)I" } : Jvm.MethodName)) ∈ cb_TB := cb_i4 19 rfl rfl
theorem cw_740 : (Jvm.Cond.code ({ cls := "CauseBook", name := "firstOf", desc := "(I)I" } : Jvm.MethodName) prog_1_method_50_code (2 : Nat) (Option.some Jvm.ClassFile.FieldType.int)) ∈ cb_TB := cb_i4 20 rfl rfl
theorem cw_741 : (Jvm.Cond.methodLink "CauseBook" (404 : Nat) ({ cls := "CauseBook", name := "has", desc := "(II)Z" } : Jvm.MethodName)) ∈ cb_TB := cb_i4 21 rfl rfl
theorem cw_742 : (Jvm.Cond.methodLinkNest "CauseBook" (276 : Nat) ({ cls := "CauseBook$Decoder", name := "leastBeside", desc := "(I)I" } : Jvm.MethodName) "CauseBook") ∈ cb_TB := cb_i4 22 rfl rfl
theorem cw_744 : (Jvm.Cond.instanceMethod ({ cls := "CauseBook$Decoder", name := "leastBeside", desc := "(I)I" } : Jvm.MethodName)) ∈ cb_TB := cb_i4 24 rfl rfl
theorem cw_745 : (Jvm.Cond.code ({ cls := "CauseBook$Decoder", name := "leastBeside", desc := "(I)I" } : Jvm.MethodName) prog_5_method_4_code (4 : Nat) (Option.some Jvm.ClassFile.FieldType.int)) ∈ cb_TB := cb_i4 25 rfl rfl
theorem cw_746 : (Jvm.Cond.methodLinkNest "CauseBook$Decoder" (54 : Nat) ({ cls := "CauseBook", name := "has", desc := "(II)Z" } : Jvm.MethodName) "CauseBook") ∈ cb_TB := cb_i4 26 rfl rfl
theorem cw_747 : (Jvm.Cond.methodLink "CauseBook$Decoder" (61 : Nat) ({ cls := "java/lang/Math", name := "min", desc := "(II)I" } : Jvm.MethodName)) ∈ cb_TB := cb_i4 27 rfl rfl
theorem cw_749 : (Jvm.Cond.instanceMethod ({ cls := "CauseBook", name := "joint", desc := "(II)I" } : Jvm.MethodName)) ∈ cb_TB := cb_i4 29 rfl rfl
theorem cw_750 : (Jvm.Cond.selects "CauseBook" ({ cls := "CauseBook", name := "joint", desc := "(II)I" } : Jvm.MethodName) ({ cls := "CauseBook", name := "joint", desc := "(II)I" } : Jvm.MethodName)) ∈ cb_TB := cb_i4 30 rfl rfl
theorem cw_751 : (Jvm.Cond.code ({ cls := "CauseBook", name := "joint", desc := "(II)I" } : Jvm.MethodName) prog_1_method_24_code (4 : Nat) (Option.some Jvm.ClassFile.FieldType.int)) ∈ cb_TB := cb_i4 31 rfl rfl
theorem cw_752 : (Jvm.Cond.methodLinkNest "CauseBook" (279 : Nat) ({ cls := "CauseBook$Codes", name := "renewSets", desc := "()V" } : Jvm.MethodName) "CauseBook") ∈ cb_TB := cb_i4 32 rfl rfl
theorem cw_754 : (Jvm.Cond.instanceMethod ({ cls := "CauseBook$Codes", name := "renewSets", desc := "()V" } : Jvm.MethodName)) ∈ cb_TB := cb_i4 34 rfl rfl
theorem cw_755 : (Jvm.Cond.code ({ cls := "CauseBook$Codes", name := "renewSets", desc := "()V" } : Jvm.MethodName) prog_4_method_5_code (3 : Nat) (Option.none : Option Jvm.ClassFile.FieldType)) ∈ cb_TB := cb_i4 35 rfl rfl
theorem cw_756 : (Jvm.Cond.methodLink "CauseBook$Codes" (82 : Nat) ({ cls := "CauseBook$Codes", name := "listSets", desc := "()V" } : Jvm.MethodName)) ∈ cb_TB := cb_i4 36 rfl rfl
theorem cw_758 : (Jvm.Cond.instanceMethod ({ cls := "CauseBook$Codes", name := "listSets", desc := "()V" } : Jvm.MethodName)) ∈ cb_TB := cb_i4 38 rfl rfl
theorem cw_759 : (Jvm.Cond.code ({ cls := "CauseBook$Codes", name := "listSets", desc := "()V" } : Jvm.MethodName) prog_4_method_7_code (4 : Nat) (Option.none : Option Jvm.ClassFile.FieldType)) ∈ cb_TB := cb_i4 39 rfl rfl
theorem cw_760 : (Jvm.Cond.methodLink "CauseBook$Codes" (102 : Nat) ({ cls := "CauseBook$Codes", name := "addSet", desc := "(I)V" } : Jvm.MethodName)) ∈ cb_TB := cb_i4 40 rfl rfl
theorem cw_762 : (Jvm.Cond.instanceMethod ({ cls := "CauseBook$Codes", name := "addSet", desc := "(I)V" } : Jvm.MethodName)) ∈ cb_TB := cb_i4 42 rfl rfl
theorem cw_763 : (Jvm.Cond.code ({ cls := "CauseBook$Codes", name := "addSet", desc := "(I)V" } : Jvm.MethodName) prog_4_method_8_code (2 : Nat) (Option.none : Option Jvm.ClassFile.FieldType)) ∈ cb_TB := cb_i4 43 rfl rfl
theorem cw_764 : (Jvm.Cond.methodLinkNest "CauseBook$Codes" (85 : Nat) ({ cls := "CauseBook$Model", name := "hasRuleOfSeveral", desc := "()Z" } : Jvm.MethodName) "CauseBook") ∈ cb_TB := cb_i4 44 rfl rfl
theorem cw_766 : (Jvm.Cond.instanceMethod ({ cls := "CauseBook$Model", name := "hasRuleOfSeveral", desc := "()Z" } : Jvm.MethodName)) ∈ cb_TB := cb_i4 46 rfl rfl
theorem cw_767 : (Jvm.Cond.code ({ cls := "CauseBook$Model", name := "hasRuleOfSeveral", desc := "()Z" } : Jvm.MethodName) prog_7_method_16_code (2 : Nat) (Option.some Jvm.ClassFile.FieldType.boolean)) ∈ cb_TB := cb_i4 47 rfl rfl
theorem cw_768 : (Jvm.Cond.methodLink "CauseBook$Model" (62 : Nat) ({ cls := "CauseBook$Model", name := "rulePart", desc := "(II)I" } : Jvm.MethodName)) ∈ cb_TB := cb_i4 48 rfl rfl
theorem cw_769 : (Jvm.Cond.methodLink "CauseBook$Codes" (94 : Nat) ({ cls := "CauseBook$Codes", name := "unionOfCodes", desc := "(I)I" } : Jvm.MethodName)) ∈ cb_TB := cb_i4 49 rfl rfl
theorem cw_771 : (Jvm.Cond.instanceMethod ({ cls := "CauseBook$Codes", name := "unionOfCodes", desc := "(I)I" } : Jvm.MethodName)) ∈ cb_TB := cb_i4 51 rfl rfl
theorem cw_772 : (Jvm.Cond.code ({ cls := "CauseBook$Codes", name := "unionOfCodes", desc := "(I)I" } : Jvm.MethodName) prog_4_method_6_code (4 : Nat) (Option.some Jvm.ClassFile.FieldType.int)) ∈ cb_TB := cb_i4 52 rfl rfl
theorem cw_773 : (Jvm.Cond.methodLinkNest "CauseBook$Codes" (98 : Nat) ({ cls := "CauseBook", name := "has", desc := "(II)Z" } : Jvm.MethodName) "CauseBook") ∈ cb_TB := cb_i4 53 rfl rfl
theorem cw_774 : (Jvm.Cond.methodLinkNest "CauseBook" (282 : Nat) ({ cls := "CauseBook$Decoder", name := "jointBy", desc := "(I)I" } : Jvm.MethodName) "CauseBook") ∈ cb_TB := cb_i4 54 rfl rfl
theorem cw_776 : (Jvm.Cond.instanceMethod ({ cls := "CauseBook$Decoder", name := "jointBy", desc := "(I)I" } : Jvm.MethodName)) ∈ cb_TB := cb_i4 56 rfl rfl
theorem cw_777 : (Jvm.Cond.code ({ cls := "CauseBook$Decoder", name := "jointBy", desc := "(I)I" } : Jvm.MethodName) prog_5_method_5_code (5 : Nat) (Option.some Jvm.ClassFile.FieldType.int)) ∈ cb_TB := cb_i4 57 rfl rfl
theorem cw_779 : (Jvm.Cond.instanceMethod ({ cls := "CauseBook", name := "odds", desc := "(II)J" } : Jvm.MethodName)) ∈ cb_TB := cb_i4 59 rfl rfl
theorem cw_780 : (Jvm.Cond.selects "CauseBook" ({ cls := "CauseBook", name := "odds", desc := "(II)J" } : Jvm.MethodName) ({ cls := "CauseBook", name := "odds", desc := "(II)J" } : Jvm.MethodName)) ∈ cb_TB := cb_i4 60 rfl rfl
theorem cw_781 : (Jvm.Cond.code ({ cls := "CauseBook", name := "odds", desc := "(II)J" } : Jvm.MethodName) prog_1_method_25_code (7 : Nat) (Option.some Jvm.ClassFile.FieldType.long)) ∈ cb_TB := cb_i4 61 rfl rfl
theorem cw_782 : (Jvm.Cond.constantLong "CauseBook" (288 : Nat) (-1 : Int64)) ∈ cb_TB := cb_i4 62 rfl rfl
theorem cw_783 : (Jvm.Cond.methodLinkNest "CauseBook" (290 : Nat) ({ cls := "CauseBook$Chances", name := "weigh", desc := "()V" } : Jvm.MethodName) "CauseBook") ∈ cb_TB := cb_i4 63 rfl rfl
theorem cw_785 : (Jvm.Cond.instanceMethod ({ cls := "CauseBook$Chances", name := "weigh", desc := "()V" } : Jvm.MethodName)) ∈ cb_TB := cb_i4 65 rfl rfl
theorem cw_786 : (Jvm.Cond.code ({ cls := "CauseBook$Chances", name := "weigh", desc := "()V" } : Jvm.MethodName) prog_2_method_2_code (2 : Nat) (Option.none : Option Jvm.ClassFile.FieldType)) ∈ cb_TB := cb_i4 66 rfl rfl
theorem cw_787 : (Jvm.Cond.methodLink "CauseBook$Chances" (27 : Nat) ({ cls := "CauseBook$Chances", name := "likely", desc := "(I)J" } : Jvm.MethodName)) ∈ cb_TB := cb_i4 67 rfl rfl
theorem cw_789 : (Jvm.Cond.instanceMethod ({ cls := "CauseBook$Chances", name := "likely", desc := "(I)J" } : Jvm.MethodName)) ∈ cb_TB := cb_i4 69 rfl rfl
theorem cw_790 : (Jvm.Cond.code ({ cls := "CauseBook$Chances", name := "likely", desc := "(I)J" } : Jvm.MethodName) prog_2_method_3_code (5 : Nat) (Option.some Jvm.ClassFile.FieldType.long)) ∈ cb_TB := cb_i4 70 rfl rfl
theorem cw_791 : (Jvm.Cond.methodLinkNest "CauseBook$Chances" (64 : Nat) ({ cls := "CauseBook", name := "has", desc := "(II)Z" } : Jvm.MethodName) "CauseBook") ∈ cb_TB := cb_i4 71 rfl rfl
theorem cw_792 : (Jvm.Cond.methodLink "CauseBook$Chances" (71 : Nat) ({ cls := "CauseBook$Chances", name := "factor", desc := "(ZZ)I" } : Jvm.MethodName)) ∈ cb_TB := cb_i4 72 rfl rfl
theorem cw_794 : (Jvm.Cond.instanceMethod ({ cls := "CauseBook$Chances", name := "factor", desc := "(ZZ)I" } : Jvm.MethodName)) ∈ cb_TB := cb_i4 74 rfl rfl
theorem cw_795 : (Jvm.Cond.code ({ cls := "CauseBook$Chances", name := "factor", desc := "(ZZ)I" } : Jvm.MethodName) prog_2_method_4_code (3 : Nat) (Option.some Jvm.ClassFile.FieldType.int)) ∈ cb_TB := cb_i4 75 rfl rfl
theorem cw_796 : (Jvm.Cond.methodLinkNest "CauseBook" (304 : Nat) ({ cls := "CauseBook$Chances", name := "greatestDivisor", desc := "(JJ)J" } : Jvm.MethodName) "CauseBook") ∈ cb_TB := cb_i4 76 rfl rfl
theorem cw_797 : (Jvm.Cond.static ({ cls := "CauseBook$Chances", name := "greatestDivisor", desc := "(JJ)J" } : Jvm.MethodName)) ∈ cb_TB := cb_i4 77 rfl rfl
theorem cw_798 : (Jvm.Cond.code ({ cls := "CauseBook$Chances", name := "greatestDivisor", desc := "(JJ)J" } : Jvm.MethodName) prog_2_method_5_code (11 : Nat) (Option.some Jvm.ClassFile.FieldType.long)) ∈ cb_TB := cb_i4 78 rfl rfl
theorem cw_800 : (Jvm.Cond.instanceMethod ({ cls := "CauseBook", name := "likeliest", desc := "(I)I" } : Jvm.MethodName)) ∈ cb_TB := cb_i4 80 rfl rfl
theorem cw_801 : (Jvm.Cond.selects "CauseBook" ({ cls := "CauseBook", name := "likeliest", desc := "(I)I" } : Jvm.MethodName) ({ cls := "CauseBook", name := "likeliest", desc := "(I)I" } : Jvm.MethodName)) ∈ cb_TB := cb_i4 81 rfl rfl
theorem cw_802 : (Jvm.Cond.code ({ cls := "CauseBook", name := "likeliest", desc := "(I)I" } : Jvm.MethodName) prog_1_method_26_code (5 : Nat) (Option.some Jvm.ClassFile.FieldType.int)) ∈ cb_TB := cb_i4 82 rfl rfl
theorem cw_803 : (Jvm.Cond.methodLinkNest "CauseBook" (308 : Nat) ({ cls := "CauseBook$Chances", name := "atRank", desc := "(I)I" } : Jvm.MethodName) "CauseBook") ∈ cb_TB := cb_i4 83 rfl rfl
theorem cw_805 : (Jvm.Cond.instanceMethod ({ cls := "CauseBook$Chances", name := "atRank", desc := "(I)I" } : Jvm.MethodName)) ∈ cb_TB := cb_i4 85 rfl rfl
theorem cw_806 : (Jvm.Cond.code ({ cls := "CauseBook$Chances", name := "atRank", desc := "(I)I" } : Jvm.MethodName) prog_2_method_7_code (3 : Nat) (Option.some Jvm.ClassFile.FieldType.int)) ∈ cb_TB := cb_i4 86 rfl rfl
theorem cw_807 : (Jvm.Cond.methodLink "CauseBook$Chances" (75 : Nat) ({ cls := "CauseBook$Chances", name := "causesAhead", desc := "(I)I" } : Jvm.MethodName)) ∈ cb_TB := cb_i4 87 rfl rfl
theorem cw_809 : (Jvm.Cond.instanceMethod ({ cls := "CauseBook$Chances", name := "causesAhead", desc := "(I)I" } : Jvm.MethodName)) ∈ cb_TB := cb_i4 89 rfl rfl
theorem cw_810 : (Jvm.Cond.code ({ cls := "CauseBook$Chances", name := "causesAhead", desc := "(I)I" } : Jvm.MethodName) prog_2_method_8_code (4 : Nat) (Option.some Jvm.ClassFile.FieldType.int)) ∈ cb_TB := cb_i4 90 rfl rfl
theorem cw_811 : (Jvm.Cond.methodLinkNest "CauseBook" (311 : Nat) ({ cls := "CauseBook$Chances", name := "howMany", desc := "(J)I" } : Jvm.MethodName) "CauseBook") ∈ cb_TB := cb_i4 91 rfl rfl
theorem cw_813 : (Jvm.Cond.instanceMethod ({ cls := "CauseBook$Chances", name := "howMany", desc := "(J)I" } : Jvm.MethodName)) ∈ cb_TB := cb_i4 93 rfl rfl
theorem cw_814 : (Jvm.Cond.code ({ cls := "CauseBook$Chances", name := "howMany", desc := "(J)I" } : Jvm.MethodName) prog_2_method_6_code (5 : Nat) (Option.some Jvm.ClassFile.FieldType.int)) ∈ cb_TB := cb_i4 94 rfl rfl
theorem cw_816 : (Jvm.Cond.instanceMethod ({ cls := "CauseBook", name := "ranked", desc := "(I)I" } : Jvm.MethodName)) ∈ cb_TB := cb_i4 96 rfl rfl
theorem cw_817 : (Jvm.Cond.selects "CauseBook" ({ cls := "CauseBook", name := "ranked", desc := "(I)I" } : Jvm.MethodName) ({ cls := "CauseBook", name := "ranked", desc := "(I)I" } : Jvm.MethodName)) ∈ cb_TB := cb_i4 97 rfl rfl
theorem cw_818 : (Jvm.Cond.code ({ cls := "CauseBook", name := "ranked", desc := "(I)I" } : Jvm.MethodName) prog_1_method_27_code (2 : Nat) (Option.some Jvm.ClassFile.FieldType.int)) ∈ cb_TB := cb_i4 98 rfl rfl
theorem cw_820 : (Jvm.Cond.instanceMethod ({ cls := "CauseBook", name := "hold", desc := "(I)I" } : Jvm.MethodName)) ∈ cb_TB := cb_i4 100 rfl rfl
theorem cw_821 : (Jvm.Cond.selects "CauseBook" ({ cls := "CauseBook", name := "hold", desc := "(I)I" } : Jvm.MethodName) ({ cls := "CauseBook", name := "hold", desc := "(I)I" } : Jvm.MethodName)) ∈ cb_TB := cb_i4 101 rfl rfl
theorem cw_822 : (Jvm.Cond.code ({ cls := "CauseBook", name := "hold", desc := "(I)I" } : Jvm.MethodName) prog_1_method_28_code (3 : Nat) (Option.some Jvm.ClassFile.FieldType.int)) ∈ cb_TB := cb_i4 102 rfl rfl
theorem cw_823 : (Jvm.Cond.methodLinkNest "CauseBook" (315 : Nat) ({ cls := "CauseBook$Decoder", name := "fewestThatTurn", desc := "()I" } : Jvm.MethodName) "CauseBook") ∈ cb_TB := cb_i4 103 rfl rfl
theorem cw_825 : (Jvm.Cond.instanceMethod ({ cls := "CauseBook$Decoder", name := "fewestThatTurn", desc := "()I" } : Jvm.MethodName)) ∈ cb_TB := cb_i4 105 rfl rfl
theorem cw_826 : (Jvm.Cond.code ({ cls := "CauseBook$Decoder", name := "fewestThatTurn", desc := "()I" } : Jvm.MethodName) prog_5_method_6_code (5 : Nat) (Option.some Jvm.ClassFile.FieldType.int)) ∈ cb_TB := cb_i4 106 rfl rfl
theorem cw_827 : (Jvm.Cond.methodLink "CauseBook$Decoder" (78 : Nat) ({ cls := "CauseBook$Decoder", name := "nearestTo", desc := "(I)I" } : Jvm.MethodName)) ∈ cb_TB := cb_i4 107 rfl rfl
theorem cw_829 : (Jvm.Cond.instanceMethod ({ cls := "CauseBook", name := "minimal", desc := "(II)I" } : Jvm.MethodName)) ∈ cb_TB := cb_i4 109 rfl rfl
theorem cw_830 : (Jvm.Cond.selects "CauseBook" ({ cls := "CauseBook", name := "minimal", desc := "(II)I" } : Jvm.MethodName) ({ cls := "CauseBook", name := "minimal", desc := "(II)I" } : Jvm.MethodName)) ∈ cb_TB := cb_i4 110 rfl rfl
theorem cw_831 : (Jvm.Cond.code ({ cls := "CauseBook", name := "minimal", desc := "(II)I" } : Jvm.MethodName) prog_1_method_29_code (4 : Nat) (Option.some Jvm.ClassFile.FieldType.int)) ∈ cb_TB := cb_i4 111 rfl rfl
theorem cw_832 : (Jvm.Cond.methodLinkNest "CauseBook" (318 : Nat) ({ cls := "CauseBook$Codes", name := "findMinimal", desc := "(I)I" } : Jvm.MethodName) "CauseBook") ∈ cb_TB := cb_i4 112 rfl rfl
theorem cw_834 : (Jvm.Cond.instanceMethod ({ cls := "CauseBook$Codes", name := "findMinimal", desc := "(I)I" } : Jvm.MethodName)) ∈ cb_TB := cb_i4 114 rfl rfl
theorem cw_835 : (Jvm.Cond.code ({ cls := "CauseBook$Codes", name := "findMinimal", desc := "(I)I" } : Jvm.MethodName) prog_4_method_9_code (4 : Nat) (Option.some Jvm.ClassFile.FieldType.int)) ∈ cb_TB := cb_i4 115 rfl rfl
theorem cw_836 : (Jvm.Cond.methodLink "CauseBook$Codes" (105 : Nat) ({ cls := "CauseBook$Codes", name := "holdsMinimal", desc := "(II)Z" } : Jvm.MethodName)) ∈ cb_TB := cb_i4 116 rfl rfl
theorem cw_838 : (Jvm.Cond.instanceMethod ({ cls := "CauseBook$Codes", name := "holdsMinimal", desc := "(II)Z" } : Jvm.MethodName)) ∈ cb_TB := cb_i4 118 rfl rfl
theorem cw_839 : (Jvm.Cond.code ({ cls := "CauseBook$Codes", name := "holdsMinimal", desc := "(II)Z" } : Jvm.MethodName) prog_4_method_10_code (4 : Nat) (Option.some Jvm.ClassFile.FieldType.boolean)) ∈ cb_TB := cb_i4 119 rfl rfl
theorem cw_841 : (Jvm.Cond.instanceMethod ({ cls := "CauseBook", name := "weakest", desc := "(I)I" } : Jvm.MethodName)) ∈ cb_TB := cb_i4 121 rfl rfl
theorem cw_842 : (Jvm.Cond.selects "CauseBook" ({ cls := "CauseBook", name := "weakest", desc := "(I)I" } : Jvm.MethodName) ({ cls := "CauseBook", name := "weakest", desc := "(I)I" } : Jvm.MethodName)) ∈ cb_TB := cb_i4 122 rfl rfl
theorem cw_843 : (Jvm.Cond.code ({ cls := "CauseBook", name := "weakest", desc := "(I)I" } : Jvm.MethodName) prog_1_method_30_code (2 : Nat) (Option.some Jvm.ClassFile.FieldType.int)) ∈ cb_TB := cb_i4 123 rfl rfl
theorem cw_844 : (Jvm.Cond.methodLinkNest "CauseBook" (324 : Nat) ({ cls := "CauseBook$Codes", name := "findWeakest", desc := "()V" } : Jvm.MethodName) "CauseBook") ∈ cb_TB := cb_i4 124 rfl rfl
theorem cw_846 : (Jvm.Cond.instanceMethod ({ cls := "CauseBook$Codes", name := "findWeakest", desc := "()V" } : Jvm.MethodName)) ∈ cb_TB := cb_i4 126 rfl rfl
theorem cw_847 : (Jvm.Cond.code ({ cls := "CauseBook$Codes", name := "findWeakest", desc := "()V" } : Jvm.MethodName) prog_4_method_11_code (3 : Nat) (Option.none : Option Jvm.ClassFile.FieldType)) ∈ cb_TB := cb_i4 127 rfl rfl
theorem cw_848 : (Jvm.Cond.methodLink "CauseBook$Codes" (117 : Nat) ({ cls := "CauseBook$Codes", name := "changesWithout", desc := "(I)I" } : Jvm.MethodName)) ∈ cb_TB := cb_i4 128 rfl rfl
theorem cw_850 : (Jvm.Cond.instanceMethod ({ cls := "CauseBook$Codes", name := "changesWithout", desc := "(I)I" } : Jvm.MethodName)) ∈ cb_TB := cb_i4 130 rfl rfl
theorem cw_851 : (Jvm.Cond.code ({ cls := "CauseBook$Codes", name := "changesWithout", desc := "(I)I" } : Jvm.MethodName) prog_4_method_12_code (4 : Nat) (Option.some Jvm.ClassFile.FieldType.int)) ∈ cb_TB := cb_i4 131 rfl rfl
theorem cw_853 : (Jvm.Cond.instanceMethod ({ cls := "CauseBook", name := "ordered", desc := "(II)I" } : Jvm.MethodName)) ∈ cb_TB := cb_i4 133 rfl rfl
theorem cw_854 : (Jvm.Cond.selects "CauseBook" ({ cls := "CauseBook", name := "ordered", desc := "(II)I" } : Jvm.MethodName) ({ cls := "CauseBook", name := "ordered", desc := "(II)I" } : Jvm.MethodName)) ∈ cb_TB := cb_i4 134 rfl rfl
theorem cw_855 : (Jvm.Cond.code ({ cls := "CauseBook", name := "ordered", desc := "(II)I" } : Jvm.MethodName) prog_1_method_31_code (3 : Nat) (Option.some Jvm.ClassFile.FieldType.int)) ∈ cb_TB := cb_i4 135 rfl rfl
theorem cw_856 : (Jvm.Cond.methodLinkNest "CauseBook" (333 : Nat) ({ cls := "CauseBook$Codes", name := "signAtRank", desc := "(II)I" } : Jvm.MethodName) "CauseBook") ∈ cb_TB := cb_i4 136 rfl rfl
theorem cw_858 : (Jvm.Cond.instanceMethod ({ cls := "CauseBook$Codes", name := "signAtRank", desc := "(II)I" } : Jvm.MethodName)) ∈ cb_TB := cb_i4 138 rfl rfl
theorem cw_859 : (Jvm.Cond.code ({ cls := "CauseBook$Codes", name := "signAtRank", desc := "(II)I" } : Jvm.MethodName) prog_4_method_15_code (4 : Nat) (Option.some Jvm.ClassFile.FieldType.int)) ∈ cb_TB := cb_i4 139 rfl rfl
theorem cw_860 : (Jvm.Cond.methodLink "CauseBook$Codes" (128 : Nat) ({ cls := "CauseBook$Codes", name := "signsAhead", desc := "(II)I" } : Jvm.MethodName)) ∈ cb_TB := cb_i4 140 rfl rfl
theorem cw_862 : (Jvm.Cond.instanceMethod ({ cls := "CauseBook$Codes", name := "signsAhead", desc := "(II)I" } : Jvm.MethodName)) ∈ cb_TB := cb_i4 142 rfl rfl
theorem cw_863 : (Jvm.Cond.code ({ cls := "CauseBook$Codes", name := "signsAhead", desc := "(II)I" } : Jvm.MethodName) prog_4_method_16_code (7 : Nat) (Option.some Jvm.ClassFile.FieldType.int)) ∈ cb_TB := cb_i4 143 rfl rfl
theorem cw_864 : (Jvm.Cond.methodLink "CauseBook$Codes" (120 : Nat) ({ cls := "CauseBook$Codes", name := "signTime", desc := "(II)I" } : Jvm.MethodName)) ∈ cb_TB := cb_i4 144 rfl rfl
theorem cw_866 : (Jvm.Cond.instanceMethod ({ cls := "CauseBook$Codes", name := "signTime", desc := "(II)I" } : Jvm.MethodName)) ∈ cb_TB := cb_i4 146 rfl rfl
theorem cw_867 : (Jvm.Cond.code ({ cls := "CauseBook$Codes", name := "signTime", desc := "(II)I" } : Jvm.MethodName) prog_4_method_13_code (3 : Nat) (Option.some Jvm.ClassFile.FieldType.int)) ∈ cb_TB := cb_i4 147 rfl rfl
theorem cw_869 : (Jvm.Cond.instanceMethod ({ cls := "CauseBook", name := "sure", desc := "(I)I" } : Jvm.MethodName)) ∈ cb_TB := cb_i4 149 rfl rfl
theorem cw_870 : (Jvm.Cond.selects "CauseBook" ({ cls := "CauseBook", name := "sure", desc := "(I)I" } : Jvm.MethodName) ({ cls := "CauseBook", name := "sure", desc := "(I)I" } : Jvm.MethodName)) ∈ cb_TB := cb_i4 150 rfl rfl
theorem cw_871 : (Jvm.Cond.code ({ cls := "CauseBook", name := "sure", desc := "(I)I" } : Jvm.MethodName) prog_1_method_32_code (3 : Nat) (Option.some Jvm.ClassFile.FieldType.int)) ∈ cb_TB := cb_i4 151 rfl rfl
theorem cw_872 : (Jvm.Cond.methodLinkNest "CauseBook" (336 : Nat) ({ cls := "CauseBook$Decoder", name := "sureFrom", desc := "(I)I" } : Jvm.MethodName) "CauseBook") ∈ cb_TB := cb_i4 152 rfl rfl
theorem cw_874 : (Jvm.Cond.instanceMethod ({ cls := "CauseBook$Decoder", name := "sureFrom", desc := "(I)I" } : Jvm.MethodName)) ∈ cb_TB := cb_i4 154 rfl rfl
theorem cw_875 : (Jvm.Cond.code ({ cls := "CauseBook$Decoder", name := "sureFrom", desc := "(I)I" } : Jvm.MethodName) prog_5_method_11_code (5 : Nat) (Option.some Jvm.ClassFile.FieldType.int)) ∈ cb_TB := cb_i4 155 rfl rfl
theorem cw_876 : (Jvm.Cond.methodLink "CauseBook$Decoder" (81 : Nat) ({ cls := "CauseBook$Decoder", name := "causesLike", desc := "(I)I" } : Jvm.MethodName)) ∈ cb_TB := cb_i4 156 rfl rfl
theorem cw_878 : (Jvm.Cond.instanceMethod ({ cls := "CauseBook$Decoder", name := "causesLike", desc := "(I)I" } : Jvm.MethodName)) ∈ cb_TB := cb_i4 158 rfl rfl
theorem cw_879 : (Jvm.Cond.code ({ cls := "CauseBook$Decoder", name := "causesLike", desc := "(I)I" } : Jvm.MethodName) prog_5_method_7_code (4 : Nat) (Option.some Jvm.ClassFile.FieldType.int)) ∈ cb_TB := cb_i4 159 rfl rfl
theorem cw_880 : (Jvm.Cond.methodLinkNest "CauseBook$Decoder" (90 : Nat) ({ cls := "CauseBook$Codes", name := "signsBy", desc := "(II)I" } : Jvm.MethodName) "CauseBook") ∈ cb_TB := cb_i4 160 rfl rfl
theorem cw_882 : (Jvm.Cond.instanceMethod ({ cls := "CauseBook$Codes", name := "signsBy", desc := "(II)I" } : Jvm.MethodName)) ∈ cb_TB := cb_i4 162 rfl rfl
theorem cw_883 : (Jvm.Cond.code ({ cls := "CauseBook$Codes", name := "signsBy", desc := "(II)I" } : Jvm.MethodName) prog_4_method_17_code (5 : Nat) (Option.some Jvm.ClassFile.FieldType.int)) ∈ cb_TB := cb_i4 163 rfl rfl
theorem cw_884 : (Jvm.Cond.methodLinkNest "CauseBook$Decoder" (93 : Nat) ({ cls := "CauseBook$Codes", name := "nextSignTime", desc := "(II)I" } : Jvm.MethodName) "CauseBook") ∈ cb_TB := cb_i4 164 rfl rfl
theorem cw_886 : (Jvm.Cond.instanceMethod ({ cls := "CauseBook$Codes", name := "nextSignTime", desc := "(II)I" } : Jvm.MethodName)) ∈ cb_TB := cb_i4 166 rfl rfl
theorem cw_887 : (Jvm.Cond.code ({ cls := "CauseBook$Codes", name := "nextSignTime", desc := "(II)I" } : Jvm.MethodName) prog_4_method_18_code (6 : Nat) (Option.some Jvm.ClassFile.FieldType.int)) ∈ cb_TB := cb_i4 167 rfl rfl
theorem cw_888 : (Jvm.Cond.methodLink "CauseBook$Codes" (131 : Nat) ({ cls := "java/lang/Math", name := "min", desc := "(II)I" } : Jvm.MethodName)) ∈ cb_TB := cb_i4 168 rfl rfl
theorem cw_890 : (Jvm.Cond.instanceMethod ({ cls := "CauseBook", name := "busiest", desc := "(II)I" } : Jvm.MethodName)) ∈ cb_TB := cb_i4 170 rfl rfl
theorem cw_891 : (Jvm.Cond.selects "CauseBook" ({ cls := "CauseBook", name := "busiest", desc := "(II)I" } : Jvm.MethodName) ({ cls := "CauseBook", name := "busiest", desc := "(II)I" } : Jvm.MethodName)) ∈ cb_TB := cb_i4 171 rfl rfl
theorem cw_892 : (Jvm.Cond.code ({ cls := "CauseBook", name := "busiest", desc := "(II)I" } : Jvm.MethodName) prog_1_method_33_code (4 : Nat) (Option.some Jvm.ClassFile.FieldType.int)) ∈ cb_TB := cb_i4 172 rfl rfl
theorem cw_893 : (Jvm.Cond.methodLinkNest "CauseBook" (339 : Nat) ({ cls := "CauseBook$Chronicle", name := "busiestFrom", desc := "(I)I" } : Jvm.MethodName) "CauseBook") ∈ cb_TB := cb_i4 173 rfl rfl
theorem cw_895 : (Jvm.Cond.instanceMethod ({ cls := "CauseBook$Chronicle", name := "busiestFrom", desc := "(I)I" } : Jvm.MethodName)) ∈ cb_TB := cb_i4 175 rfl rfl
theorem cw_896 : (Jvm.Cond.code ({ cls := "CauseBook$Chronicle", name := "busiestFrom", desc := "(I)I" } : Jvm.MethodName) prog_3_method_3_code (7 : Nat) (Option.some Jvm.ClassFile.FieldType.int)) ∈ cb_TB := cb_i4 176 rfl rfl
theorem cw_897 : (Jvm.Cond.methodLink "CauseBook$Chronicle" (38 : Nat) ({ cls := "CauseBook$Chronicle", name := "signsWithin", desc := "(II)I" } : Jvm.MethodName)) ∈ cb_TB := cb_i4 177 rfl rfl
theorem cw_898 : (Jvm.Cond.methodLink "CauseBook$Chronicle" (42 : Nat) ({ cls := "java/lang/Integer", name := "bitCount", desc := "(I)I" } : Jvm.MethodName)) ∈ cb_TB := cb_i4 178 rfl rfl
theorem cw_899 : (Jvm.Cond.methodLink "CauseBook$Chronicle" (48 : Nat) ({ cls := "java/lang/Math", name := "max", desc := "(II)I" } : Jvm.MethodName)) ∈ cb_TB := cb_i4 179 rfl rfl
theorem cw_901 : (Jvm.Cond.instanceMethod ({ cls := "CauseBook", name := "groups", desc := "(I)I" } : Jvm.MethodName)) ∈ cb_TB := cb_i4 181 rfl rfl
theorem cw_902 : (Jvm.Cond.selects "CauseBook" ({ cls := "CauseBook", name := "groups", desc := "(I)I" } : Jvm.MethodName) ({ cls := "CauseBook", name := "groups", desc := "(I)I" } : Jvm.MethodName)) ∈ cb_TB := cb_i4 182 rfl rfl
theorem cw_903 : (Jvm.Cond.code ({ cls := "CauseBook", name := "groups", desc := "(I)I" } : Jvm.MethodName) prog_1_method_34_code (3 : Nat) (Option.some Jvm.ClassFile.FieldType.int)) ∈ cb_TB := cb_i4 183 rfl rfl
theorem cw_904 : (Jvm.Cond.methodLinkNest "CauseBook" (342 : Nat) ({ cls := "CauseBook$Decoder", name := "margin", desc := "()I" } : Jvm.MethodName) "CauseBook") ∈ cb_TB := cb_i4 184 rfl rfl
theorem cw_906 : (Jvm.Cond.instanceMethod ({ cls := "CauseBook$Decoder", name := "margin", desc := "()I" } : Jvm.MethodName)) ∈ cb_TB := cb_i4 186 rfl rfl
theorem cw_907 : (Jvm.Cond.code ({ cls := "CauseBook$Decoder", name := "margin", desc := "()I" } : Jvm.MethodName) prog_5_method_10_code (5 : Nat) (Option.some Jvm.ClassFile.FieldType.int)) ∈ cb_TB := cb_i4 187 rfl rfl
theorem cw_908 : (Jvm.Cond.methodLinkNest "CauseBook" (345 : Nat) ({ cls := "CauseBook$Decoder", name := "groupCount", desc := "()I" } : Jvm.MethodName) "CauseBook") ∈ cb_TB := cb_i4 188 rfl rfl
theorem cw_910 : (Jvm.Cond.instanceMethod ({ cls := "CauseBook$Decoder", name := "groupCount", desc := "()I" } : Jvm.MethodName)) ∈ cb_TB := cb_i4 190 rfl rfl
theorem cw_911 : (Jvm.Cond.code ({ cls := "CauseBook$Decoder", name := "groupCount", desc := "()I" } : Jvm.MethodName) prog_5_method_9_code (3 : Nat) (Option.some Jvm.ClassFile.FieldType.int)) ∈ cb_TB := cb_i4 191 rfl rfl
theorem cw_912 : (Jvm.Cond.methodLink "CauseBook$Decoder" (87 : Nat) ({ cls := "CauseBook$Decoder", name := "leastOfGroup", desc := "(I)I" } : Jvm.MethodName)) ∈ cb_TB := cb_i4 192 rfl rfl
theorem cw_914 : (Jvm.Cond.instanceMethod ({ cls := "CauseBook$Decoder", name := "leastOfGroup", desc := "(I)I" } : Jvm.MethodName)) ∈ cb_TB := cb_i4 194 rfl rfl
theorem cw_915 : (Jvm.Cond.code ({ cls := "CauseBook$Decoder", name := "leastOfGroup", desc := "(I)I" } : Jvm.MethodName) prog_5_method_8_code (2 : Nat) (Option.some Jvm.ClassFile.FieldType.int)) ∈ cb_TB := cb_i4 195 rfl rfl
theorem cw_916 : (Jvm.Cond.methodLinkNest "CauseBook$Decoder" (84 : Nat) ({ cls := "CauseBook", name := "firstOf", desc := "(I)I" } : Jvm.MethodName) "CauseBook") ∈ cb_TB := cb_i4 196 rfl rfl
theorem cw_917 : (Jvm.Cond.methodLinkNest "CauseBook" (348 : Nat) ({ cls := "CauseBook$Decoder", name := "causesLike", desc := "(I)I" } : Jvm.MethodName) "CauseBook") ∈ cb_TB := cb_i4 197 rfl rfl
theorem cw_918 : (Jvm.Cond.methodLinkNest "CauseBook" (351 : Nat) ({ cls := "CauseBook$Codes", name := "signsInNone", desc := "()I" } : Jvm.MethodName) "CauseBook") ∈ cb_TB := cb_i4 198 rfl rfl
theorem cw_920 : (Jvm.Cond.instanceMethod ({ cls := "CauseBook$Codes", name := "signsInNone", desc := "()I" } : Jvm.MethodName)) ∈ cb_TB := cb_i4 200 rfl rfl
theorem cw_921 : (Jvm.Cond.code ({ cls := "CauseBook$Codes", name := "signsInNone", desc := "()I" } : Jvm.MethodName) prog_4_method_20_code (2 : Nat) (Option.some Jvm.ClassFile.FieldType.int)) ∈ cb_TB := cb_i4 201 rfl rfl
theorem cw_923 : (Jvm.Cond.instanceMethod ({ cls := "CauseBook", name := "group", desc := "(I)I" } : Jvm.MethodName)) ∈ cb_TB := cb_i4 203 rfl rfl
theorem cw_924 : (Jvm.Cond.selects "CauseBook" ({ cls := "CauseBook", name := "group", desc := "(I)I" } : Jvm.MethodName) ({ cls := "CauseBook", name := "group", desc := "(I)I" } : Jvm.MethodName)) ∈ cb_TB := cb_i4 204 rfl rfl
theorem cw_925 : (Jvm.Cond.code ({ cls := "CauseBook", name := "group", desc := "(I)I" } : Jvm.MethodName) prog_1_method_35_code (2 : Nat) (Option.some Jvm.ClassFile.FieldType.int)) ∈ cb_TB := cb_i4 205 rfl rfl
theorem cw_926 : (Jvm.Cond.methodLinkNest "CauseBook" (354 : Nat) ({ cls := "CauseBook$Decoder", name := "leastOfGroup", desc := "(I)I" } : Jvm.MethodName) "CauseBook") ∈ cb_TB := cb_i4 206 rfl rfl
theorem cw_928 : (Jvm.Cond.instanceMethod ({ cls := "CauseBook", name := "reduced", desc := "(I)I" } : Jvm.MethodName)) ∈ cb_TB := cb_i4 208 rfl rfl
theorem cw_929 : (Jvm.Cond.selects "CauseBook" ({ cls := "CauseBook", name := "reduced", desc := "(I)I" } : Jvm.MethodName) ({ cls := "CauseBook", name := "reduced", desc := "(I)I" } : Jvm.MethodName)) ∈ cb_TB := cb_i4 209 rfl rfl
theorem cw_930 : (Jvm.Cond.code ({ cls := "CauseBook", name := "reduced", desc := "(I)I" } : Jvm.MethodName) prog_1_method_36_code (2 : Nat) (Option.some Jvm.ClassFile.FieldType.int)) ∈ cb_TB := cb_i4 210 rfl rfl
theorem cw_932 : (Jvm.Cond.instanceMethod ({ cls := "CauseBook", name := "ask", desc := "(I)I" } : Jvm.MethodName)) ∈ cb_TB := cb_i4 212 rfl rfl
theorem cw_933 : (Jvm.Cond.selects "CauseBook" ({ cls := "CauseBook", name := "ask", desc := "(I)I" } : Jvm.MethodName) ({ cls := "CauseBook", name := "ask", desc := "(I)I" } : Jvm.MethodName)) ∈ cb_TB := cb_i4 213 rfl rfl
theorem cw_934 : (Jvm.Cond.code ({ cls := "CauseBook", name := "ask", desc := "(I)I" } : Jvm.MethodName) prog_1_method_37_code (3 : Nat) (Option.some Jvm.ClassFile.FieldType.int)) ∈ cb_TB := cb_i4 214 rfl rfl
theorem cw_935 : (Jvm.Cond.methodLinkNest "CauseBook" (357 : Nat) ({ cls := "CauseBook$Decoder", name := "bestQuestion", desc := "()I" } : Jvm.MethodName) "CauseBook") ∈ cb_TB := cb_i4 215 rfl rfl
theorem cw_937 : (Jvm.Cond.instanceMethod ({ cls := "CauseBook$Decoder", name := "bestQuestion", desc := "()I" } : Jvm.MethodName)) ∈ cb_TB := cb_i4 217 rfl rfl
theorem cw_938 : (Jvm.Cond.code ({ cls := "CauseBook$Decoder", name := "bestQuestion", desc := "()I" } : Jvm.MethodName) prog_5_method_12_code (7 : Nat) (Option.some Jvm.ClassFile.FieldType.int)) ∈ cb_TB := cb_i4 218 rfl rfl
theorem cw_939 : (Jvm.Cond.methodLinkNest "CauseBook$Decoder" (99 : Nat) ({ cls := "CauseBook$Codes", name := "causesWith", desc := "(I)I" } : Jvm.MethodName) "CauseBook") ∈ cb_TB := cb_i4 219 rfl rfl
theorem cw_941 : (Jvm.Cond.instanceMethod ({ cls := "CauseBook$Codes", name := "causesWith", desc := "(I)I" } : Jvm.MethodName)) ∈ cb_TB := cb_i4 221 rfl rfl
theorem cw_942 : (Jvm.Cond.code ({ cls := "CauseBook$Codes", name := "causesWith", desc := "(I)I" } : Jvm.MethodName) prog_4_method_19_code (4 : Nat) (Option.some Jvm.ClassFile.FieldType.int)) ∈ cb_TB := cb_i4 222 rfl rfl
theorem cw_943 : (Jvm.Cond.methodLink "CauseBook$Decoder" (102 : Nat) ({ cls := "java/lang/Math", name := "max", desc := "(II)I" } : Jvm.MethodName)) ∈ cb_TB := cb_i4 223 rfl rfl
theorem cw_945 : (Jvm.Cond.instanceMethod ({ cls := "CauseBook", name := "cuts", desc := "(III)I" } : Jvm.MethodName)) ∈ cb_TB := cb_i4 225 rfl rfl
theorem cw_946 : (Jvm.Cond.selects "CauseBook" ({ cls := "CauseBook", name := "cuts", desc := "(III)I" } : Jvm.MethodName) ({ cls := "CauseBook", name := "cuts", desc := "(III)I" } : Jvm.MethodName)) ∈ cb_TB := cb_i4 226 rfl rfl
theorem cw_947 : (Jvm.Cond.code ({ cls := "CauseBook", name := "cuts", desc := "(III)I" } : Jvm.MethodName) prog_1_method_38_code (7 : Nat) (Option.some Jvm.ClassFile.FieldType.int)) ∈ cb_TB := cb_i4 227 rfl rfl
theorem cw_948 : (Jvm.Cond.methodLinkNest "CauseBook" (360 : Nat) ({ cls := "CauseBook$Chronicle", name := "cutCount", desc := "(I)I" } : Jvm.MethodName) "CauseBook") ∈ cb_TB := cb_i4 228 rfl rfl
theorem cw_950 : (Jvm.Cond.instanceMethod ({ cls := "CauseBook$Chronicle", name := "cutCount", desc := "(I)I" } : Jvm.MethodName)) ∈ cb_TB := cb_i4 230 rfl rfl
theorem cw_951 : (Jvm.Cond.code ({ cls := "CauseBook$Chronicle", name := "cutCount", desc := "(I)I" } : Jvm.MethodName) prog_3_method_6_code (5 : Nat) (Option.some Jvm.ClassFile.FieldType.int)) ∈ cb_TB := cb_i4 231 rfl rfl
theorem cw_952 : (Jvm.Cond.methodLink "CauseBook$Chronicle" (57 : Nat) ({ cls := "CauseBook$Chronicle", name := "earliestFrom", desc := "(I)I" } : Jvm.MethodName)) ∈ cb_TB := cb_i4 232 rfl rfl
theorem cw_954 : (Jvm.Cond.instanceMethod ({ cls := "CauseBook$Chronicle", name := "earliestFrom", desc := "(I)I" } : Jvm.MethodName)) ∈ cb_TB := cb_i4 234 rfl rfl
theorem cw_955 : (Jvm.Cond.code ({ cls := "CauseBook$Chronicle", name := "earliestFrom", desc := "(I)I" } : Jvm.MethodName) prog_3_method_4_code (4 : Nat) (Option.some Jvm.ClassFile.FieldType.int)) ∈ cb_TB := cb_i4 235 rfl rfl
theorem cw_956 : (Jvm.Cond.constant "CauseBook$Chronicle" (53 : Nat) (1000000 : Int32)) ∈ cb_TB := cb_i4 236 rfl rfl
theorem cw_957 : (Jvm.Cond.methodLink "CauseBook$Chronicle" (54 : Nat) ({ cls := "java/lang/Math", name := "min", desc := "(II)I" } : Jvm.MethodName)) ∈ cb_TB := cb_i4 237 rfl rfl
theorem cw_958 : (Jvm.Cond.methodLinkNest "CauseBook" (363 : Nat) ({ cls := "CauseBook$Chronicle", name := "cutBegin", desc := "(II)I" } : Jvm.MethodName) "CauseBook") ∈ cb_TB := cb_i4 238 rfl rfl
theorem cw_960 : (Jvm.Cond.instanceMethod ({ cls := "CauseBook$Chronicle", name := "cutBegin", desc := "(II)I" } : Jvm.MethodName)) ∈ cb_TB := cb_i5 0 rfl rfl
theorem cw_961 : (Jvm.Cond.code ({ cls := "CauseBook$Chronicle", name := "cutBegin", desc := "(II)I" } : Jvm.MethodName) prog_3_method_5_code (5 : Nat) (Option.some Jvm.ClassFile.FieldType.int)) ∈ cb_TB := cb_i5 1 rfl rfl
theorem cw_963 : (Jvm.Cond.instanceMethod ({ cls := "CauseBook", name := "explains", desc := "(II)I" } : Jvm.MethodName)) ∈ cb_TB := cb_i5 3 rfl rfl
theorem cw_964 : (Jvm.Cond.selects "CauseBook" ({ cls := "CauseBook", name := "explains", desc := "(II)I" } : Jvm.MethodName) ({ cls := "CauseBook", name := "explains", desc := "(II)I" } : Jvm.MethodName)) ∈ cb_TB := cb_i5 4 rfl rfl
theorem cw_965 : (Jvm.Cond.code ({ cls := "CauseBook", name := "explains", desc := "(II)I" } : Jvm.MethodName) prog_1_method_39_code (3 : Nat) (Option.some Jvm.ClassFile.FieldType.int)) ∈ cb_TB := cb_i5 5 rfl rfl
theorem cw_966 : (Jvm.Cond.methodLinkNest "CauseBook" (366 : Nat) ({ cls := "CauseBook$Chronicle", name := "explained", desc := "(II)I" } : Jvm.MethodName) "CauseBook") ∈ cb_TB := cb_i5 6 rfl rfl
theorem cw_968 : (Jvm.Cond.instanceMethod ({ cls := "CauseBook$Chronicle", name := "explained", desc := "(II)I" } : Jvm.MethodName)) ∈ cb_TB := cb_i5 8 rfl rfl
theorem cw_969 : (Jvm.Cond.code ({ cls := "CauseBook$Chronicle", name := "explained", desc := "(II)I" } : Jvm.MethodName) prog_3_method_7_code (6 : Nat) (Option.some Jvm.ClassFile.FieldType.int)) ∈ cb_TB := cb_i5 9 rfl rfl
theorem cw_970 : (Jvm.Cond.methodLinkNest "CauseBook$Chronicle" (60 : Nat) ({ cls := "CauseBook$Codes", name := "signTime", desc := "(II)I" } : Jvm.MethodName) "CauseBook") ∈ cb_TB := cb_i5 10 rfl rfl
theorem cw_971 : (Jvm.Cond.methodLink "CauseBook$Chronicle" (65 : Nat) ({ cls := "java/lang/Math", name := "abs", desc := "(I)I" } : Jvm.MethodName)) ∈ cb_TB := cb_i5 11 rfl rfl
theorem cw_972 : (Jvm.Cond.static ({ cls := "java/lang/Math", name := "abs", desc := "(I)I" } : Jvm.MethodName)) ∈ cb_TB := cb_i5 12 rfl rfl
theorem cw_973 : (Jvm.Cond.code ({ cls := "java/lang/Math", name := "abs", desc := "(I)I" } : Jvm.MethodName) prog_15_method_59_code (1 : Nat) (Option.some Jvm.ClassFile.FieldType.int)) ∈ cb_TB := cb_i5 13 rfl rfl
theorem cw_975 : (Jvm.Cond.instanceMethod ({ cls := "CauseBook", name := "best", desc := "(II)I" } : Jvm.MethodName)) ∈ cb_TB := cb_i5 15 rfl rfl
theorem cw_976 : (Jvm.Cond.selects "CauseBook" ({ cls := "CauseBook", name := "best", desc := "(II)I" } : Jvm.MethodName) ({ cls := "CauseBook", name := "best", desc := "(II)I" } : Jvm.MethodName)) ∈ cb_TB := cb_i5 16 rfl rfl
theorem cw_977 : (Jvm.Cond.code ({ cls := "CauseBook", name := "best", desc := "(II)I" } : Jvm.MethodName) prog_1_method_40_code (4 : Nat) (Option.some Jvm.ClassFile.FieldType.int)) ∈ cb_TB := cb_i5 17 rfl rfl
theorem cw_978 : (Jvm.Cond.methodLinkNest "CauseBook" (369 : Nat) ({ cls := "CauseBook$Chronicle", name := "bestStart", desc := "(I)I" } : Jvm.MethodName) "CauseBook") ∈ cb_TB := cb_i5 18 rfl rfl
theorem cw_980 : (Jvm.Cond.instanceMethod ({ cls := "CauseBook$Chronicle", name := "bestStart", desc := "(I)I" } : Jvm.MethodName)) ∈ cb_TB := cb_i5 20 rfl rfl
theorem cw_981 : (Jvm.Cond.code ({ cls := "CauseBook$Chronicle", name := "bestStart", desc := "(I)I" } : Jvm.MethodName) prog_3_method_9_code (7 : Nat) (Option.some Jvm.ClassFile.FieldType.int)) ∈ cb_TB := cb_i5 21 rfl rfl
theorem cw_982 : (Jvm.Cond.methodLink "CauseBook$Chronicle" (68 : Nat) ({ cls := "CauseBook$Chronicle", name := "explained", desc := "(II)I" } : Jvm.MethodName)) ∈ cb_TB := cb_i5 22 rfl rfl
theorem cw_983 : (Jvm.Cond.methodLink "CauseBook$Chronicle" (71 : Nat) ({ cls := "CauseBook$Chronicle", name := "earliestStart", desc := "(II)I" } : Jvm.MethodName)) ∈ cb_TB := cb_i5 23 rfl rfl
theorem cw_985 : (Jvm.Cond.instanceMethod ({ cls := "CauseBook$Chronicle", name := "earliestStart", desc := "(II)I" } : Jvm.MethodName)) ∈ cb_TB := cb_i5 25 rfl rfl
theorem cw_986 : (Jvm.Cond.code ({ cls := "CauseBook$Chronicle", name := "earliestStart", desc := "(II)I" } : Jvm.MethodName) prog_3_method_8_code (4 : Nat) (Option.some Jvm.ClassFile.FieldType.int)) ∈ cb_TB := cb_i5 26 rfl rfl
theorem cw_988 : (Jvm.Cond.instanceMethod ({ cls := "CauseBook", name := "cover", desc := "()I" } : Jvm.MethodName)) ∈ cb_TB := cb_i5 28 rfl rfl
theorem cw_989 : (Jvm.Cond.selects "CauseBook" ({ cls := "CauseBook", name := "cover", desc := "()I" } : Jvm.MethodName) ({ cls := "CauseBook", name := "cover", desc := "()I" } : Jvm.MethodName)) ∈ cb_TB := cb_i5 29 rfl rfl
theorem cw_990 : (Jvm.Cond.code ({ cls := "CauseBook", name := "cover", desc := "()I" } : Jvm.MethodName) prog_1_method_41_code (1 : Nat) (Option.some Jvm.ClassFile.FieldType.int)) ∈ cb_TB := cb_i5 30 rfl rfl
theorem cw_991 : (Jvm.Cond.methodLinkNest "CauseBook" (372 : Nat) ({ cls := "CauseBook$Chronicle", name := "fewestThatExplainAll", desc := "()I" } : Jvm.MethodName) "CauseBook") ∈ cb_TB := cb_i5 31 rfl rfl
theorem cw_993 : (Jvm.Cond.instanceMethod ({ cls := "CauseBook$Chronicle", name := "fewestThatExplainAll", desc := "()I" } : Jvm.MethodName)) ∈ cb_TB := cb_i5 33 rfl rfl
theorem cw_994 : (Jvm.Cond.code ({ cls := "CauseBook$Chronicle", name := "fewestThatExplainAll", desc := "()I" } : Jvm.MethodName) prog_3_method_10_code (2 : Nat) (Option.some Jvm.ClassFile.FieldType.int)) ∈ cb_TB := cb_i5 34 rfl rfl
theorem cw_995 : (Jvm.Cond.methodLink "CauseBook$Chronicle" (74 : Nat) ({ cls := "CauseBook$Chronicle", name := "listOffers", desc := "()V" } : Jvm.MethodName)) ∈ cb_TB := cb_i5 35 rfl rfl
theorem cw_997 : (Jvm.Cond.instanceMethod ({ cls := "CauseBook$Chronicle", name := "listOffers", desc := "()V" } : Jvm.MethodName)) ∈ cb_TB := cb_i5 37 rfl rfl
theorem cw_998 : (Jvm.Cond.code ({ cls := "CauseBook$Chronicle", name := "listOffers", desc := "()V" } : Jvm.MethodName) prog_3_method_11_code (3 : Nat) (Option.none : Option Jvm.ClassFile.FieldType)) ∈ cb_TB := cb_i5 38 rfl rfl
theorem cw_999 : (Jvm.Cond.methodLink "CauseBook$Chronicle" (99 : Nat) ({ cls := "CauseBook$Chronicle", name := "offer", desc := "(I)V" } : Jvm.MethodName)) ∈ cb_TB := cb_i5 39 rfl rfl
theorem cw_1001 : (Jvm.Cond.instanceMethod ({ cls := "CauseBook$Chronicle", name := "offer", desc := "(I)V" } : Jvm.MethodName)) ∈ cb_TB := cb_i5 41 rfl rfl
theorem cw_1002 : (Jvm.Cond.code ({ cls := "CauseBook$Chronicle", name := "offer", desc := "(I)V" } : Jvm.MethodName) prog_3_method_12_code (4 : Nat) (Option.none : Option Jvm.ClassFile.FieldType)) ∈ cb_TB := cb_i5 42 rfl rfl
theorem cw_1003 : (Jvm.Cond.methodLink "CauseBook$Chronicle" (77 : Nat) ({ cls := "CauseBook$Chronicle", name := "byOne", desc := "(I)Z" } : Jvm.MethodName)) ∈ cb_TB := cb_i5 43 rfl rfl
theorem cw_1005 : (Jvm.Cond.instanceMethod ({ cls := "CauseBook$Chronicle", name := "byOne", desc := "(I)Z" } : Jvm.MethodName)) ∈ cb_TB := cb_i5 45 rfl rfl
theorem cw_1006 : (Jvm.Cond.code ({ cls := "CauseBook$Chronicle", name := "byOne", desc := "(I)Z" } : Jvm.MethodName) prog_3_method_13_code (3 : Nat) (Option.some Jvm.ClassFile.FieldType.boolean)) ∈ cb_TB := cb_i5 46 rfl rfl
theorem cw_1007 : (Jvm.Cond.methodLink "CauseBook$Chronicle" (81 : Nat) ({ cls := "CauseBook$Chronicle", name := "byTwo", desc := "(I)Z" } : Jvm.MethodName)) ∈ cb_TB := cb_i5 47 rfl rfl
theorem cw_1009 : (Jvm.Cond.instanceMethod ({ cls := "CauseBook$Chronicle", name := "byTwo", desc := "(I)Z" } : Jvm.MethodName)) ∈ cb_TB := cb_i5 49 rfl rfl
theorem cw_1010 : (Jvm.Cond.code ({ cls := "CauseBook$Chronicle", name := "byTwo", desc := "(I)Z" } : Jvm.MethodName) prog_3_method_14_code (4 : Nat) (Option.some Jvm.ClassFile.FieldType.boolean)) ∈ cb_TB := cb_i5 50 rfl rfl
theorem cw_1011 : (Jvm.Cond.methodLink "CauseBook$Chronicle" (84 : Nat) ({ cls := "CauseBook$Chronicle", name := "byThree", desc := "(I)Z" } : Jvm.MethodName)) ∈ cb_TB := cb_i5 51 rfl rfl
theorem cw_1013 : (Jvm.Cond.instanceMethod ({ cls := "CauseBook$Chronicle", name := "byThree", desc := "(I)Z" } : Jvm.MethodName)) ∈ cb_TB := cb_i5 53 rfl rfl
theorem cw_1014 : (Jvm.Cond.code ({ cls := "CauseBook$Chronicle", name := "byThree", desc := "(I)Z" } : Jvm.MethodName) prog_3_method_15_code (4 : Nat) (Option.some Jvm.ClassFile.FieldType.boolean)) ∈ cb_TB := cb_i5 54 rfl rfl
theorem cw_1016 : (Jvm.Cond.instanceMethod ({ cls := "CauseBook", name := "ofCause", desc := "(II)I" } : Jvm.MethodName)) ∈ cb_TB := cb_i5 56 rfl rfl
theorem cw_1017 : (Jvm.Cond.selects "CauseBook" ({ cls := "CauseBook", name := "ofCause", desc := "(II)I" } : Jvm.MethodName) ({ cls := "CauseBook", name := "ofCause", desc := "(II)I" } : Jvm.MethodName)) ∈ cb_TB := cb_i5 57 rfl rfl
theorem cw_1018 : (Jvm.Cond.code ({ cls := "CauseBook", name := "ofCause", desc := "(II)I" } : Jvm.MethodName) prog_1_method_42_code (3 : Nat) (Option.some Jvm.ClassFile.FieldType.int)) ∈ cb_TB := cb_i5 58 rfl rfl
theorem cw_1019 : (Jvm.Cond.methodLinkNest "CauseBook" (383 : Nat) ({ cls := "CauseBook$Codes", name := "lastSignTime", desc := "(I)I" } : Jvm.MethodName) "CauseBook") ∈ cb_TB := cb_i5 59 rfl rfl
theorem cw_1021 : (Jvm.Cond.instanceMethod ({ cls := "CauseBook$Codes", name := "lastSignTime", desc := "(I)I" } : Jvm.MethodName)) ∈ cb_TB := cb_i5 61 rfl rfl
theorem cw_1022 : (Jvm.Cond.code ({ cls := "CauseBook$Codes", name := "lastSignTime", desc := "(I)I" } : Jvm.MethodName) prog_4_method_14_code (4 : Nat) (Option.some Jvm.ClassFile.FieldType.int)) ∈ cb_TB := cb_i5 62 rfl rfl
theorem cw_1023 : (Jvm.Cond.methodLink "CauseBook$Codes" (123 : Nat) ({ cls := "java/lang/Math", name := "max", desc := "(II)I" } : Jvm.MethodName)) ∈ cb_TB := cb_i5 63 rfl rfl
theorem cw_1025 : (Jvm.Cond.instanceMethod ({ cls := "CauseBook", name := "ofSign", desc := "(II)I" } : Jvm.MethodName)) ∈ cb_TB := cb_i5 65 rfl rfl
theorem cw_1026 : (Jvm.Cond.selects "CauseBook" ({ cls := "CauseBook", name := "ofSign", desc := "(II)I" } : Jvm.MethodName) ({ cls := "CauseBook", name := "ofSign", desc := "(II)I" } : Jvm.MethodName)) ∈ cb_TB := cb_i5 66 rfl rfl
theorem cw_1027 : (Jvm.Cond.code ({ cls := "CauseBook", name := "ofSign", desc := "(II)I" } : Jvm.MethodName) prog_1_method_43_code (3 : Nat) (Option.some Jvm.ClassFile.FieldType.int)) ∈ cb_TB := cb_i5 67 rfl rfl
theorem cw_1028 : (Jvm.Cond.methodLinkNest "CauseBook" (386 : Nat) ({ cls := "CauseBook$Codes", name := "causesWith", desc := "(I)I" } : Jvm.MethodName) "CauseBook") ∈ cb_TB := cb_i5 68 rfl rfl
theorem cw_1030 : (Jvm.Cond.instanceMethod ({ cls := "CauseBook", name := "ofObject", desc := "(II)I" } : Jvm.MethodName)) ∈ cb_TB := cb_i5 70 rfl rfl
theorem cw_1031 : (Jvm.Cond.selects "CauseBook" ({ cls := "CauseBook", name := "ofObject", desc := "(II)I" } : Jvm.MethodName) ({ cls := "CauseBook", name := "ofObject", desc := "(II)I" } : Jvm.MethodName)) ∈ cb_TB := cb_i5 71 rfl rfl
theorem cw_1032 : (Jvm.Cond.code ({ cls := "CauseBook", name := "ofObject", desc := "(II)I" } : Jvm.MethodName) prog_1_method_44_code (4 : Nat) (Option.some Jvm.ClassFile.FieldType.int)) ∈ cb_TB := cb_i5 72 rfl rfl
theorem cw_1033 : (Jvm.Cond.methodLinkNest "CauseBook" (392 : Nat) ({ cls := "CauseBook$Model", name := "neighbours", desc := "(IIZ)I" } : Jvm.MethodName) "CauseBook") ∈ cb_TB := cb_i5 73 rfl rfl
theorem cw_1035 : (Jvm.Cond.instanceMethod ({ cls := "CauseBook$Model", name := "neighbours", desc := "(IIZ)I" } : Jvm.MethodName)) ∈ cb_TB := cb_i5 75 rfl rfl
theorem cw_1036 : (Jvm.Cond.code ({ cls := "CauseBook$Model", name := "neighbours", desc := "(IIZ)I" } : Jvm.MethodName) prog_7_method_10_code (8 : Nat) (Option.some Jvm.ClassFile.FieldType.int)) ∈ cb_TB := cb_i5 76 rfl rfl
theorem cw_1038 : (Jvm.Cond.instanceMethod ({ cls := "CauseBook", name := "ofRule", desc := "(II)I" } : Jvm.MethodName)) ∈ cb_TB := cb_i5 78 rfl rfl
theorem cw_1039 : (Jvm.Cond.selects "CauseBook" ({ cls := "CauseBook", name := "ofRule", desc := "(II)I" } : Jvm.MethodName) ({ cls := "CauseBook", name := "ofRule", desc := "(II)I" } : Jvm.MethodName)) ∈ cb_TB := cb_i5 79 rfl rfl
theorem cw_1040 : (Jvm.Cond.code ({ cls := "CauseBook", name := "ofRule", desc := "(II)I" } : Jvm.MethodName) prog_1_method_45_code (3 : Nat) (Option.some Jvm.ClassFile.FieldType.int)) ∈ cb_TB := cb_i5 80 rfl rfl
theorem cw_1041 : (Jvm.Cond.methodLinkNest "CauseBook" (396 : Nat) ({ cls := "CauseBook$Model", name := "rulePart", desc := "(II)I" } : Jvm.MethodName) "CauseBook") ∈ cb_TB := cb_i5 81 rfl rfl
theorem cw_1043 : (Jvm.Cond.instanceMethod ({ cls := "CauseBook", name := "count", desc := "(I)I" } : Jvm.MethodName)) ∈ cb_TB := cb_i5 83 rfl rfl
theorem cw_1044 : (Jvm.Cond.selects "CauseBook" ({ cls := "CauseBook", name := "count", desc := "(I)I" } : Jvm.MethodName) ({ cls := "CauseBook", name := "count", desc := "(I)I" } : Jvm.MethodName)) ∈ cb_TB := cb_i5 84 rfl rfl
theorem cw_1045 : (Jvm.Cond.code ({ cls := "CauseBook", name := "count", desc := "(I)I" } : Jvm.MethodName) prog_1_method_46_code (2 : Nat) (Option.some Jvm.ClassFile.FieldType.int)) ∈ cb_TB := cb_i5 85 rfl rfl
theorem cw_1047 : (Jvm.Cond.instanceMethod ({ cls := "CauseBook", name := "status", desc := "()I" } : Jvm.MethodName)) ∈ cb_TB := cb_i5 87 rfl rfl
theorem cw_1048 : (Jvm.Cond.selects "CauseBook" ({ cls := "CauseBook", name := "status", desc := "()I" } : Jvm.MethodName) ({ cls := "CauseBook", name := "status", desc := "()I" } : Jvm.MethodName)) ∈ cb_TB := cb_i5 88 rfl rfl
theorem cw_1049 : (Jvm.Cond.code ({ cls := "CauseBook", name := "status", desc := "()I" } : Jvm.MethodName) prog_1_method_47_code (1 : Nat) (Option.some Jvm.ClassFile.FieldType.int)) ∈ cb_TB := cb_i5 89 rfl rfl
theorem cw_1056 : (Jvm.Cond.fieldLink "CauseBookModel" (59 : Nat) "CauseBookModel" "thrown" "I") ∈ cb_TB := cb_i5 96 rfl rfl
theorem cw_1057 : (Jvm.Cond.fieldLink "CauseBookModel" (63 : Nat) "CauseBookModel" "status" "I") ∈ cb_TB := cb_i5 97 rfl rfl
theorem cw_1058 : (Jvm.Cond.fieldLink "CauseBookModel" (7 : Nat) "CauseBookModel" "refusals" "[I") ∈ cb_TB := cb_i5 98 rfl rfl
theorem cw_1059 : (Jvm.Cond.fieldLink "CauseBookModel" (13 : Nat) "CauseBookModel" "term" "[I") ∈ cb_TB := cb_i5 99 rfl rfl
theorem cw_1060 : (Jvm.Cond.fieldLink "CauseBookModel" (16 : Nat) "CauseBookModel" "row" "[I") ∈ cb_TB := cb_i5 100 rfl rfl
theorem cw_1061 : (Jvm.Cond.fieldLink "CauseBookModel" (19 : Nat) "CauseBookModel" "undos" "[I") ∈ cb_TB := cb_i5 101 rfl rfl
theorem cw_1062 : (Jvm.Cond.fieldLink "CauseBookModel" (22 : Nat) "CauseBookModel" "sorts" "[I") ∈ cb_TB := cb_i5 102 rfl rfl
theorem cw_1063 : (Jvm.Cond.fieldLink "CauseBookModel" (66 : Nat) "CauseBookModel" "nUndo" "I") ∈ cb_TB := cb_i5 103 rfl rfl
theorem cw_1064 : (Jvm.Cond.fieldLink "CauseBookModel" (25 : Nat) "CauseBookModel" "images" "[I") ∈ cb_TB := cb_i5 104 rfl rfl
theorem cw_1065 : (Jvm.Cond.fieldLink "CauseBookModel" (28 : Nat) "CauseBookModel" "isKept" "[Z") ∈ cb_TB := cb_i5 105 rfl rfl
theorem cw_1066 : (Jvm.Cond.fieldLink "CauseBookModel" (32 : Nat) "CauseBookModel" "causeObject" "[I") ∈ cb_TB := cb_i5 106 rfl rfl
theorem cw_1067 : (Jvm.Cond.fieldLink "CauseBookModel" (35 : Nat) "CauseBookModel" "causeEvent" "[I") ∈ cb_TB := cb_i5 107 rfl rfl
theorem cw_1068 : (Jvm.Cond.fieldLink "CauseBookModel" (92 : Nat) "CauseBookModel" "nCauses" "I") ∈ cb_TB := cb_i5 108 rfl rfl
theorem cw_1069 : (Jvm.Cond.fieldLink "CauseBookModel" (38 : Nat) "CauseBookModel" "signObject" "[I") ∈ cb_TB := cb_i5 109 rfl rfl
theorem cw_1070 : (Jvm.Cond.fieldLink "CauseBookModel" (41 : Nat) "CauseBookModel" "signEvent" "[I") ∈ cb_TB := cb_i5 110 rfl rfl
theorem cw_1071 : (Jvm.Cond.fieldLink "CauseBookModel" (95 : Nat) "CauseBookModel" "nSigns" "I") ∈ cb_TB := cb_i5 111 rfl rfl
theorem cw_1072 : (Jvm.Cond.fieldLink "CauseBookModel" (44 : Nat) "CauseBookModel" "times" "[I") ∈ cb_TB := cb_i5 112 rfl rfl
theorem cw_1073 : (Jvm.Cond.fieldLink "CauseBookModel" (47 : Nat) "CauseBookModel" "codes" "[I") ∈ cb_TB := cb_i5 113 rfl rfl
theorem cw_1074 : (Jvm.Cond.fieldLink "CauseBookModel" (206 : Nat) "CauseBookModel" "least" "I") ∈ cb_TB := cb_i5 114 rfl rfl
theorem cw_1075 : (Jvm.Cond.fieldLink "CauseBookModel" (209 : Nat) "CauseBookModel" "nearOnes" "I") ∈ cb_TB := cb_i5 115 rfl rfl
theorem cw_1076 : (Jvm.Cond.fieldLink "CauseBookModel" (212 : Nat) "CauseBookModel" "leastOther" "I") ∈ cb_TB := cb_i5 116 rfl rfl
theorem cw_1077 : (Jvm.Cond.fieldLink "CauseBookModel" (50 : Nat) "CauseBookModel" "keptCodes" "[I") ∈ cb_TB := cb_i5 117 rfl rfl
theorem cw_1078 : (Jvm.Cond.fieldLink "CauseBookModel" (53 : Nat) "CauseBookModel" "keptLinks" "[I") ∈ cb_TB := cb_i5 118 rfl rfl
theorem cw_1079 : (Jvm.Cond.fieldLink "CauseBookModel" (56 : Nat) "CauseBookModel" "sets" "[I") ∈ cb_TB := cb_i5 119 rfl rfl
theorem cw_1080 : (Jvm.Cond.fieldLink "CauseBookModel" (267 : Nat) "CauseBookModel" "nSets" "I") ∈ cb_TB := cb_i5 120 rfl rfl
theorem cw_1133 : (Jvm.Cond.instanceMethod ({ cls := "CauseBookModel", name := "undo", desc := "()I" } : Jvm.MethodName)) ∈ cb_TB := cb_i5 173 rfl rfl
theorem cw_1134 : (Jvm.Cond.selects "CauseBookModel" ({ cls := "CauseBookModel", name := "undo", desc := "()I" } : Jvm.MethodName) ({ cls := "CauseBookModel", name := "undo", desc := "()I" } : Jvm.MethodName)) ∈ cb_TB := cb_i5 174 rfl rfl
theorem cw_1135 : (Jvm.Cond.code ({ cls := "CauseBookModel", name := "undo", desc := "()I" } : Jvm.MethodName) prog_13_method_10_code (1 : Nat) (Option.some Jvm.ClassFile.FieldType.int)) ∈ cb_TB := cb_i5 175 rfl rfl
theorem cw_1136 : (Jvm.Cond.methodLink "CauseBookModel" (73 : Nat) ({ cls := "CauseBookModel", name := "refuse", desc := "(I)I" } : Jvm.MethodName)) ∈ cb_TB := cb_i5 176 rfl rfl
theorem cw_1138 : (Jvm.Cond.instanceMethod ({ cls := "CauseBookModel", name := "refuse", desc := "(I)I" } : Jvm.MethodName)) ∈ cb_TB := cb_i5 178 rfl rfl
theorem cw_1139 : (Jvm.Cond.code ({ cls := "CauseBookModel", name := "refuse", desc := "(I)I" } : Jvm.MethodName) prog_13_method_7_code (2 : Nat) (Option.some Jvm.ClassFile.FieldType.int)) ∈ cb_TB := cb_i5 179 rfl rfl
theorem cw_1140 : (Jvm.Cond.methodLink "CauseBookModel" (69 : Nat) ({ cls := "CauseBookModel", name := "copy", desc := "([II[II)V" } : Jvm.MethodName)) ∈ cb_TB := cb_i5 180 rfl rfl
theorem cw_1141 : (Jvm.Cond.static ({ cls := "CauseBookModel", name := "copy", desc := "([II[II)V" } : Jvm.MethodName)) ∈ cb_TB := cb_i5 181 rfl rfl
theorem cw_1142 : (Jvm.Cond.code ({ cls := "CauseBookModel", name := "copy", desc := "([II[II)V" } : Jvm.MethodName) prog_13_method_8_code (5 : Nat) (Option.none : Option Jvm.ClassFile.FieldType)) ∈ cb_TB := cb_i5 182 rfl rfl
theorem cw_1143 : (Jvm.Cond.methodLink "CauseBookModel" (77 : Nat) ({ cls := "CauseBookModel", name := "tell", desc := "(I)I" } : Jvm.MethodName)) ∈ cb_TB := cb_i5 183 rfl rfl
theorem cw_1145 : (Jvm.Cond.instanceMethod ({ cls := "CauseBookModel", name := "tell", desc := "(I)I" } : Jvm.MethodName)) ∈ cb_TB := cb_i5 185 rfl rfl
theorem cw_1146 : (Jvm.Cond.code ({ cls := "CauseBookModel", name := "tell", desc := "(I)I" } : Jvm.MethodName) prog_13_method_6_code (2 : Nat) (Option.some Jvm.ClassFile.FieldType.int)) ∈ cb_TB := cb_i5 186 rfl rfl
theorem cw_1148 : (Jvm.Cond.instanceMethod ({ cls := "CauseBookModel", name := "image", desc := "(I)I" } : Jvm.MethodName)) ∈ cb_TB := cb_i5 188 rfl rfl
theorem cw_1149 : (Jvm.Cond.selects "CauseBookModel" ({ cls := "CauseBookModel", name := "image", desc := "(I)I" } : Jvm.MethodName) ({ cls := "CauseBookModel", name := "image", desc := "(I)I" } : Jvm.MethodName)) ∈ cb_TB := cb_i5 189 rfl rfl
theorem cw_1150 : (Jvm.Cond.code ({ cls := "CauseBookModel", name := "image", desc := "(I)I" } : Jvm.MethodName) prog_13_method_11_code (2 : Nat) (Option.some Jvm.ClassFile.FieldType.int)) ∈ cb_TB := cb_i5 190 rfl rfl
theorem cw_1151 : (Jvm.Cond.methodLink "CauseBookModel" (80 : Nat) ({ cls := "CauseBookModel", name := "in", desc := "(JJJ)Z" } : Jvm.MethodName)) ∈ cb_TB := cb_i5 191 rfl rfl
theorem cw_1152 : (Jvm.Cond.static ({ cls := "CauseBookModel", name := "in", desc := "(JJJ)Z" } : Jvm.MethodName)) ∈ cb_TB := cb_i5 192 rfl rfl
theorem cw_1153 : (Jvm.Cond.code ({ cls := "CauseBookModel", name := "in", desc := "(JJJ)Z" } : Jvm.MethodName) prog_13_method_3_code (6 : Nat) (Option.some Jvm.ClassFile.FieldType.boolean)) ∈ cb_TB := cb_i5 193 rfl rfl
theorem cw_1155 : (Jvm.Cond.instanceMethod ({ cls := "CauseBookModel", name := "back", desc := "(I)I" } : Jvm.MethodName)) ∈ cb_TB := cb_i5 195 rfl rfl
theorem cw_1156 : (Jvm.Cond.selects "CauseBookModel" ({ cls := "CauseBookModel", name := "back", desc := "(I)I" } : Jvm.MethodName) ({ cls := "CauseBookModel", name := "back", desc := "(I)I" } : Jvm.MethodName)) ∈ cb_TB := cb_i5 196 rfl rfl
theorem cw_1157 : (Jvm.Cond.code ({ cls := "CauseBookModel", name := "back", desc := "(I)I" } : Jvm.MethodName) prog_13_method_12_code (2 : Nat) (Option.some Jvm.ClassFile.FieldType.int)) ∈ cb_TB := cb_i5 197 rfl rfl
theorem cw_1159 : (Jvm.Cond.instanceMethod ({ cls := "CauseBookModel", name := "terms", desc := "(II)I" } : Jvm.MethodName)) ∈ cb_TB := cb_i5 199 rfl rfl
theorem cw_1160 : (Jvm.Cond.selects "CauseBookModel" ({ cls := "CauseBookModel", name := "terms", desc := "(II)I" } : Jvm.MethodName) ({ cls := "CauseBookModel", name := "terms", desc := "(II)I" } : Jvm.MethodName)) ∈ cb_TB := cb_i5 200 rfl rfl
theorem cw_1161 : (Jvm.Cond.code ({ cls := "CauseBookModel", name := "terms", desc := "(II)I" } : Jvm.MethodName) prog_13_method_13_code (4 : Nat) (Option.some Jvm.ClassFile.FieldType.int)) ∈ cb_TB := cb_i5 201 rfl rfl
theorem cw_1162 : (Jvm.Cond.constantLong "CauseBookModel" (84 : Nat) (3 : Int64)) ∈ cb_TB := cb_i5 202 rfl rfl
theorem cw_1163 : (Jvm.Cond.constantLong "CauseBookModel" (86 : Nat) (16 : Int64)) ∈ cb_TB := cb_i5 203 rfl rfl
theorem cw_1164 : (Jvm.Cond.constantLong "CauseBookModel" (88 : Nat) (9 : Int64)) ∈ cb_TB := cb_i5 204 rfl rfl
theorem cw_1165 : (Jvm.Cond.constantLong "CauseBookModel" (90 : Nat) (5 : Int64)) ∈ cb_TB := cb_i5 205 rfl rfl
theorem cw_1167 : (Jvm.Cond.instanceMethod ({ cls := "CauseBookModel", name := "object", desc := "(I)I" } : Jvm.MethodName)) ∈ cb_TB := cb_i5 207 rfl rfl
theorem cw_1168 : (Jvm.Cond.selects "CauseBookModel" ({ cls := "CauseBookModel", name := "object", desc := "(I)I" } : Jvm.MethodName) ({ cls := "CauseBookModel", name := "object", desc := "(I)I" } : Jvm.MethodName)) ∈ cb_TB := cb_i5 208 rfl rfl
theorem cw_1169 : (Jvm.Cond.code ({ cls := "CauseBookModel", name := "object", desc := "(I)I" } : Jvm.MethodName) prog_13_method_20_code (3 : Nat) (Option.some Jvm.ClassFile.FieldType.int)) ∈ cb_TB := cb_i5 209 rfl rfl
theorem cw_1170 : (Jvm.Cond.methodLink "CauseBookModel" (102 : Nat) ({ cls := "CauseBookModel", name := "number", desc := "()V" } : Jvm.MethodName)) ∈ cb_TB := cb_i5 210 rfl rfl
theorem cw_1172 : (Jvm.Cond.instanceMethod ({ cls := "CauseBookModel", name := "number", desc := "()V" } : Jvm.MethodName)) ∈ cb_TB := cb_i5 212 rfl rfl
theorem cw_1173 : (Jvm.Cond.code ({ cls := "CauseBookModel", name := "number", desc := "()V" } : Jvm.MethodName) prog_13_method_16_code (4 : Nat) (Option.none : Option Jvm.ClassFile.FieldType)) ∈ cb_TB := cb_i5 213 rfl rfl
theorem cw_1174 : (Jvm.Cond.methodLink "CauseBookModel" (98 : Nat) ({ cls := "CauseBookModel", name := "fact", desc := "(II)I" } : Jvm.MethodName)) ∈ cb_TB := cb_i5 214 rfl rfl
theorem cw_1176 : (Jvm.Cond.instanceMethod ({ cls := "CauseBookModel", name := "fact", desc := "(II)I" } : Jvm.MethodName)) ∈ cb_TB := cb_i5 216 rfl rfl
theorem cw_1177 : (Jvm.Cond.code ({ cls := "CauseBookModel", name := "fact", desc := "(II)I" } : Jvm.MethodName) prog_13_method_15_code (3 : Nat) (Option.some Jvm.ClassFile.FieldType.int)) ∈ cb_TB := cb_i5 217 rfl rfl
theorem cw_1178 : (Jvm.Cond.methodLink "CauseBookModel" (105 : Nat) ({ cls := "CauseBookModel", name := "factsOf", desc := "(II)I" } : Jvm.MethodName)) ∈ cb_TB := cb_i5 218 rfl rfl
theorem cw_1180 : (Jvm.Cond.instanceMethod ({ cls := "CauseBookModel", name := "factsOf", desc := "(II)I" } : Jvm.MethodName)) ∈ cb_TB := cb_i5 220 rfl rfl
theorem cw_1181 : (Jvm.Cond.code ({ cls := "CauseBookModel", name := "factsOf", desc := "(II)I" } : Jvm.MethodName) prog_13_method_17_code (5 : Nat) (Option.some Jvm.ClassFile.FieldType.int)) ∈ cb_TB := cb_i5 221 rfl rfl
theorem cw_1182 : (Jvm.Cond.methodLink "CauseBookModel" (108 : Nat) ({ cls := "CauseBookModel", name := "remember", desc := "(I)V" } : Jvm.MethodName)) ∈ cb_TB := cb_i5 222 rfl rfl
theorem cw_1184 : (Jvm.Cond.instanceMethod ({ cls := "CauseBookModel", name := "remember", desc := "(I)V" } : Jvm.MethodName)) ∈ cb_TB := cb_i5 224 rfl rfl
theorem cw_1185 : (Jvm.Cond.code ({ cls := "CauseBookModel", name := "remember", desc := "(I)V" } : Jvm.MethodName) prog_13_method_9_code (3 : Nat) (Option.none : Option Jvm.ClassFile.FieldType)) ∈ cb_TB := cb_i5 225 rfl rfl
theorem cw_1186 : (Jvm.Cond.methodLink "CauseBookModel" (112 : Nat) ({ cls := "CauseBookModel", name := "others", desc := "()V" } : Jvm.MethodName)) ∈ cb_TB := cb_i5 226 rfl rfl
theorem cw_1188 : (Jvm.Cond.instanceMethod ({ cls := "CauseBookModel", name := "others", desc := "()V" } : Jvm.MethodName)) ∈ cb_TB := cb_i5 228 rfl rfl
theorem cw_1189 : (Jvm.Cond.code ({ cls := "CauseBookModel", name := "others", desc := "()V" } : Jvm.MethodName) prog_13_method_19_code (1 : Nat) (Option.none : Option Jvm.ClassFile.FieldType)) ∈ cb_TB := cb_i5 229 rfl rfl
theorem cw_1191 : (Jvm.Cond.instanceMethod ({ cls := "CauseBookModel", name := "link", desc := "(III)I" } : Jvm.MethodName)) ∈ cb_TB := cb_i5 231 rfl rfl
theorem cw_1192 : (Jvm.Cond.selects "CauseBookModel" ({ cls := "CauseBookModel", name := "link", desc := "(III)I" } : Jvm.MethodName) ({ cls := "CauseBookModel", name := "link", desc := "(III)I" } : Jvm.MethodName)) ∈ cb_TB := cb_i5 232 rfl rfl
theorem cw_1193 : (Jvm.Cond.code ({ cls := "CauseBookModel", name := "link", desc := "(III)I" } : Jvm.MethodName) prog_13_method_22_code (5 : Nat) (Option.some Jvm.ClassFile.FieldType.int)) ∈ cb_TB := cb_i5 233 rfl rfl
theorem cw_1194 : (Jvm.Cond.constantLong "CauseBookModel" (115 : Nat) (2 : Int64)) ∈ cb_TB := cb_i5 234 rfl rfl
theorem cw_1195 : (Jvm.Cond.methodLink "CauseBookModel" (117 : Nat) ({ cls := "CauseBookModel", name := "isObject", desc := "(I)Z" } : Jvm.MethodName)) ∈ cb_TB := cb_i5 235 rfl rfl
theorem cw_1197 : (Jvm.Cond.instanceMethod ({ cls := "CauseBookModel", name := "isObject", desc := "(I)Z" } : Jvm.MethodName)) ∈ cb_TB := cb_i5 237 rfl rfl
theorem cw_1198 : (Jvm.Cond.code ({ cls := "CauseBookModel", name := "isObject", desc := "(I)Z" } : Jvm.MethodName) prog_13_method_14_code (2 : Nat) (Option.some Jvm.ClassFile.FieldType.boolean)) ∈ cb_TB := cb_i5 238 rfl rfl
theorem cw_1199 : (Jvm.Cond.methodLink "CauseBookModel" (121 : Nat) ({ cls := "CauseBookModel", name := "isLink", desc := "(III)Z" } : Jvm.MethodName)) ∈ cb_TB := cb_i5 239 rfl rfl
theorem cw_1201 : (Jvm.Cond.instanceMethod ({ cls := "CauseBookModel", name := "isLink", desc := "(III)Z" } : Jvm.MethodName)) ∈ cb_TB := cb_i6 1 rfl rfl
theorem cw_1202 : (Jvm.Cond.code ({ cls := "CauseBookModel", name := "isLink", desc := "(III)Z" } : Jvm.MethodName) prog_13_method_21_code (7 : Nat) (Option.some Jvm.ClassFile.FieldType.boolean)) ∈ cb_TB := cb_i6 2 rfl rfl
theorem cw_1204 : (Jvm.Cond.instanceMethod ({ cls := "CauseBookModel", name := "cut", desc := "(I)I" } : Jvm.MethodName)) ∈ cb_TB := cb_i6 4 rfl rfl
theorem cw_1205 : (Jvm.Cond.selects "CauseBookModel" ({ cls := "CauseBookModel", name := "cut", desc := "(I)I" } : Jvm.MethodName) ({ cls := "CauseBookModel", name := "cut", desc := "(I)I" } : Jvm.MethodName)) ∈ cb_TB := cb_i6 5 rfl rfl
theorem cw_1206 : (Jvm.Cond.code ({ cls := "CauseBookModel", name := "cut", desc := "(I)I" } : Jvm.MethodName) prog_13_method_23_code (3 : Nat) (Option.some Jvm.ClassFile.FieldType.int)) ∈ cb_TB := cb_i6 6 rfl rfl
theorem cw_1208 : (Jvm.Cond.instanceMethod ({ cls := "CauseBookModel", name := "rule", desc := "(IIIII)I" } : Jvm.MethodName)) ∈ cb_TB := cb_i6 8 rfl rfl
theorem cw_1209 : (Jvm.Cond.selects "CauseBookModel" ({ cls := "CauseBookModel", name := "rule", desc := "(IIIII)I" } : Jvm.MethodName) ({ cls := "CauseBookModel", name := "rule", desc := "(IIIII)I" } : Jvm.MethodName)) ∈ cb_TB := cb_i6 9 rfl rfl
theorem cw_1210 : (Jvm.Cond.code ({ cls := "CauseBookModel", name := "rule", desc := "(IIIII)I" } : Jvm.MethodName) prog_13_method_24_code (8 : Nat) (Option.some Jvm.ClassFile.FieldType.int)) ∈ cb_TB := cb_i6 10 rfl rfl
theorem cw_1211 : (Jvm.Cond.constantLong "CauseBookModel" (125 : Nat) (4 : Int64)) ∈ cb_TB := cb_i6 11 rfl rfl
theorem cw_1212 : (Jvm.Cond.constantLong "CauseBookModel" (127 : Nat) (31 : Int64)) ∈ cb_TB := cb_i6 12 rfl rfl
theorem cw_1214 : (Jvm.Cond.instanceMethod ({ cls := "CauseBookModel", name := "drop", desc := "(I)I" } : Jvm.MethodName)) ∈ cb_TB := cb_i6 14 rfl rfl
theorem cw_1215 : (Jvm.Cond.selects "CauseBookModel" ({ cls := "CauseBookModel", name := "drop", desc := "(I)I" } : Jvm.MethodName) ({ cls := "CauseBookModel", name := "drop", desc := "(I)I" } : Jvm.MethodName)) ∈ cb_TB := cb_i6 15 rfl rfl
theorem cw_1216 : (Jvm.Cond.code ({ cls := "CauseBookModel", name := "drop", desc := "(I)I" } : Jvm.MethodName) prog_13_method_25_code (3 : Nat) (Option.some Jvm.ClassFile.FieldType.int)) ∈ cb_TB := cb_i6 16 rfl rfl
theorem cw_1218 : (Jvm.Cond.instanceMethod ({ cls := "CauseBookModel", name := "cause", desc := "(III)I" } : Jvm.MethodName)) ∈ cb_TB := cb_i6 18 rfl rfl
theorem cw_1219 : (Jvm.Cond.selects "CauseBookModel" ({ cls := "CauseBookModel", name := "cause", desc := "(III)I" } : Jvm.MethodName) ({ cls := "CauseBookModel", name := "cause", desc := "(III)I" } : Jvm.MethodName)) ∈ cb_TB := cb_i6 19 rfl rfl
theorem cw_1220 : (Jvm.Cond.code ({ cls := "CauseBookModel", name := "cause", desc := "(III)I" } : Jvm.MethodName) prog_13_method_27_code (6 : Nat) (Option.some Jvm.ClassFile.FieldType.int)) ∈ cb_TB := cb_i6 20 rfl rfl
theorem cw_1221 : (Jvm.Cond.methodLink "CauseBookModel" (131 : Nat) ({ cls := "CauseBookModel", name := "isFact", desc := "(II)Z" } : Jvm.MethodName)) ∈ cb_TB := cb_i6 21 rfl rfl
theorem cw_1222 : (Jvm.Cond.static ({ cls := "CauseBookModel", name := "isFact", desc := "(II)Z" } : Jvm.MethodName)) ∈ cb_TB := cb_i6 22 rfl rfl
theorem cw_1223 : (Jvm.Cond.code ({ cls := "CauseBookModel", name := "isFact", desc := "(II)Z" } : Jvm.MethodName) prog_13_method_26_code (2 : Nat) (Option.some Jvm.ClassFile.FieldType.boolean)) ∈ cb_TB := cb_i6 23 rfl rfl
theorem cw_1224 : (Jvm.Cond.constantLong "CauseBookModel" (129 : Nat) (7 : Int64)) ∈ cb_TB := cb_i6 24 rfl rfl
theorem cw_1225 : (Jvm.Cond.methodLink "CauseBookModel" (135 : Nat) ({ cls := "CauseBookModel", name := "ofKind", desc := "(I)I" } : Jvm.MethodName)) ∈ cb_TB := cb_i6 25 rfl rfl
theorem cw_1227 : (Jvm.Cond.instanceMethod ({ cls := "CauseBookModel", name := "ofKind", desc := "(I)I" } : Jvm.MethodName)) ∈ cb_TB := cb_i6 27 rfl rfl
theorem cw_1228 : (Jvm.Cond.code ({ cls := "CauseBookModel", name := "ofKind", desc := "(I)I" } : Jvm.MethodName) prog_13_method_18_code (4 : Nat) (Option.some Jvm.ClassFile.FieldType.int)) ∈ cb_TB := cb_i6 28 rfl rfl
theorem cw_1230 : (Jvm.Cond.instanceMethod ({ cls := "CauseBookModel", name := "sign", desc := "(II)I" } : Jvm.MethodName)) ∈ cb_TB := cb_i6 30 rfl rfl
theorem cw_1231 : (Jvm.Cond.selects "CauseBookModel" ({ cls := "CauseBookModel", name := "sign", desc := "(II)I" } : Jvm.MethodName) ({ cls := "CauseBookModel", name := "sign", desc := "(II)I" } : Jvm.MethodName)) ∈ cb_TB := cb_i6 31 rfl rfl
theorem cw_1232 : (Jvm.Cond.code ({ cls := "CauseBookModel", name := "sign", desc := "(II)I" } : Jvm.MethodName) prog_13_method_28_code (4 : Nat) (Option.some Jvm.ClassFile.FieldType.int)) ∈ cb_TB := cb_i6 32 rfl rfl
theorem cw_1234 : (Jvm.Cond.instanceMethod ({ cls := "CauseBookModel", name := "book", desc := "(I)I" } : Jvm.MethodName)) ∈ cb_TB := cb_i6 34 rfl rfl
theorem cw_1235 : (Jvm.Cond.selects "CauseBookModel" ({ cls := "CauseBookModel", name := "book", desc := "(I)I" } : Jvm.MethodName) ({ cls := "CauseBookModel", name := "book", desc := "(I)I" } : Jvm.MethodName)) ∈ cb_TB := cb_i6 35 rfl rfl
theorem cw_1236 : (Jvm.Cond.code ({ cls := "CauseBookModel", name := "book", desc := "(I)I" } : Jvm.MethodName) prog_13_method_32_code (2 : Nat) (Option.some Jvm.ClassFile.FieldType.int)) ∈ cb_TB := cb_i6 36 rfl rfl
theorem cw_1237 : (Jvm.Cond.methodLink "CauseBookModel" (138 : Nat) ({ cls := "CauseBookModel", name := "areSigns", desc := "(I)Z" } : Jvm.MethodName)) ∈ cb_TB := cb_i6 37 rfl rfl
theorem cw_1239 : (Jvm.Cond.instanceMethod ({ cls := "CauseBookModel", name := "areSigns", desc := "(I)Z" } : Jvm.MethodName)) ∈ cb_TB := cb_i6 39 rfl rfl
theorem cw_1240 : (Jvm.Cond.code ({ cls := "CauseBookModel", name := "areSigns", desc := "(I)Z" } : Jvm.MethodName) prog_13_method_29_code (2 : Nat) (Option.some Jvm.ClassFile.FieldType.boolean)) ∈ cb_TB := cb_i6 40 rfl rfl
theorem cw_1241 : (Jvm.Cond.methodLink "CauseBookModel" (141 : Nat) ({ cls := "CauseBookModel", name := "bits", desc := "(I)I" } : Jvm.MethodName)) ∈ cb_TB := cb_i6 41 rfl rfl
theorem cw_1242 : (Jvm.Cond.static ({ cls := "CauseBookModel", name := "bits", desc := "(I)I" } : Jvm.MethodName)) ∈ cb_TB := cb_i6 42 rfl rfl
theorem cw_1243 : (Jvm.Cond.code ({ cls := "CauseBookModel", name := "bits", desc := "(I)I" } : Jvm.MethodName) prog_13_method_4_code (3 : Nat) (Option.some Jvm.ClassFile.FieldType.int)) ∈ cb_TB := cb_i6 43 rfl rfl
theorem cw_1245 : (Jvm.Cond.instanceMethod ({ cls := "CauseBookModel", name := "see", desc := "(I)I" } : Jvm.MethodName)) ∈ cb_TB := cb_i6 45 rfl rfl
theorem cw_1246 : (Jvm.Cond.selects "CauseBookModel" ({ cls := "CauseBookModel", name := "see", desc := "(I)I" } : Jvm.MethodName) ({ cls := "CauseBookModel", name := "see", desc := "(I)I" } : Jvm.MethodName)) ∈ cb_TB := cb_i6 46 rfl rfl
theorem cw_1247 : (Jvm.Cond.code ({ cls := "CauseBookModel", name := "see", desc := "(I)I" } : Jvm.MethodName) prog_13_method_33_code (3 : Nat) (Option.some Jvm.ClassFile.FieldType.int)) ∈ cb_TB := cb_i6 47 rfl rfl
theorem cw_1249 : (Jvm.Cond.instanceMethod ({ cls := "CauseBookModel", name := "note", desc := "(II)I" } : Jvm.MethodName)) ∈ cb_TB := cb_i6 49 rfl rfl
theorem cw_1250 : (Jvm.Cond.selects "CauseBookModel" ({ cls := "CauseBookModel", name := "note", desc := "(II)I" } : Jvm.MethodName) ({ cls := "CauseBookModel", name := "note", desc := "(II)I" } : Jvm.MethodName)) ∈ cb_TB := cb_i6 50 rfl rfl
theorem cw_1251 : (Jvm.Cond.code ({ cls := "CauseBookModel", name := "note", desc := "(II)I" } : Jvm.MethodName) prog_13_method_34_code (4 : Nat) (Option.some Jvm.ClassFile.FieldType.int)) ∈ cb_TB := cb_i6 51 rfl rfl
theorem cw_1252 : (Jvm.Cond.constantLong "CauseBookModel" (144 : Nat) (999 : Int64)) ∈ cb_TB := cb_i6 52 rfl rfl
theorem cw_1254 : (Jvm.Cond.instanceMethod ({ cls := "CauseBookModel", name := "clear", desc := "()I" } : Jvm.MethodName)) ∈ cb_TB := cb_i6 54 rfl rfl
theorem cw_1255 : (Jvm.Cond.selects "CauseBookModel" ({ cls := "CauseBookModel", name := "clear", desc := "()I" } : Jvm.MethodName) ({ cls := "CauseBookModel", name := "clear", desc := "()I" } : Jvm.MethodName)) ∈ cb_TB := cb_i6 55 rfl rfl
theorem cw_1256 : (Jvm.Cond.code ({ cls := "CauseBookModel", name := "clear", desc := "()I" } : Jvm.MethodName) prog_13_method_35_code (2 : Nat) (Option.some Jvm.ClassFile.FieldType.int)) ∈ cb_TB := cb_i6 56 rfl rfl
theorem cw_1258 : (Jvm.Cond.instanceMethod ({ cls := "CauseBookModel", name := "window", desc := "(II)I" } : Jvm.MethodName)) ∈ cb_TB := cb_i6 58 rfl rfl
theorem cw_1259 : (Jvm.Cond.selects "CauseBookModel" ({ cls := "CauseBookModel", name := "window", desc := "(II)I" } : Jvm.MethodName) ({ cls := "CauseBookModel", name := "window", desc := "(II)I" } : Jvm.MethodName)) ∈ cb_TB := cb_i6 59 rfl rfl
theorem cw_1260 : (Jvm.Cond.code ({ cls := "CauseBookModel", name := "window", desc := "(II)I" } : Jvm.MethodName) prog_13_method_37_code (3 : Nat) (Option.some Jvm.ClassFile.FieldType.int)) ∈ cb_TB := cb_i6 60 rfl rfl
theorem cw_1261 : (Jvm.Cond.methodLink "CauseBookModel" (146 : Nat) ({ cls := "CauseBookModel", name := "signsIn", desc := "(IJ)I" } : Jvm.MethodName)) ∈ cb_TB := cb_i6 61 rfl rfl
theorem cw_1263 : (Jvm.Cond.instanceMethod ({ cls := "CauseBookModel", name := "signsIn", desc := "(IJ)I" } : Jvm.MethodName)) ∈ cb_TB := cb_i6 63 rfl rfl
theorem cw_1264 : (Jvm.Cond.code ({ cls := "CauseBookModel", name := "signsIn", desc := "(IJ)I" } : Jvm.MethodName) prog_13_method_36_code (6 : Nat) (Option.some Jvm.ClassFile.FieldType.int)) ∈ cb_TB := cb_i6 64 rfl rfl
theorem cw_1266 : (Jvm.Cond.instanceMethod ({ cls := "CauseBookModel", name := "time", desc := "(III)I" } : Jvm.MethodName)) ∈ cb_TB := cb_i6 66 rfl rfl
theorem cw_1267 : (Jvm.Cond.selects "CauseBookModel" ({ cls := "CauseBookModel", name := "time", desc := "(III)I" } : Jvm.MethodName) ({ cls := "CauseBookModel", name := "time", desc := "(III)I" } : Jvm.MethodName)) ∈ cb_TB := cb_i6 67 rfl rfl
theorem cw_1268 : (Jvm.Cond.code ({ cls := "CauseBookModel", name := "time", desc := "(III)I" } : Jvm.MethodName) prog_13_method_47_code (5 : Nat) (Option.some Jvm.ClassFile.FieldType.int)) ∈ cb_TB := cb_i6 68 rfl rfl
theorem cw_1269 : (Jvm.Cond.methodLink "CauseBookModel" (179 : Nat) ({ cls := "CauseBookModel", name := "areCauses", desc := "(I)Z" } : Jvm.MethodName)) ∈ cb_TB := cb_i6 69 rfl rfl
theorem cw_1271 : (Jvm.Cond.instanceMethod ({ cls := "CauseBookModel", name := "areCauses", desc := "(I)Z" } : Jvm.MethodName)) ∈ cb_TB := cb_i6 71 rfl rfl
theorem cw_1272 : (Jvm.Cond.code ({ cls := "CauseBookModel", name := "areCauses", desc := "(I)Z" } : Jvm.MethodName) prog_13_method_30_code (2 : Nat) (Option.some Jvm.ClassFile.FieldType.boolean)) ∈ cb_TB := cb_i6 72 rfl rfl
theorem cw_1273 : (Jvm.Cond.methodLink "CauseBookModel" (169 : Nat) ({ cls := "CauseBookModel", name := "spreadOf", desc := "(I)V" } : Jvm.MethodName)) ∈ cb_TB := cb_i6 73 rfl rfl
theorem cw_1275 : (Jvm.Cond.instanceMethod ({ cls := "CauseBookModel", name := "spreadOf", desc := "(I)V" } : Jvm.MethodName)) ∈ cb_TB := cb_i6 75 rfl rfl
theorem cw_1276 : (Jvm.Cond.code ({ cls := "CauseBookModel", name := "spreadOf", desc := "(I)V" } : Jvm.MethodName) prog_13_method_42_code (7 : Nat) (Option.none : Option Jvm.ClassFile.FieldType)) ∈ cb_TB := cb_i6 76 rfl rfl
theorem cw_1277 : (Jvm.Cond.constant "CauseBookModel" (156 : Nat) (1000000 : Int32)) ∈ cb_TB := cb_i6 77 rfl rfl
theorem cw_1278 : (Jvm.Cond.methodLink "CauseBookModel" (157 : Nat) ({ cls := "CauseBookModel", name := "has", desc := "(II)Z" } : Jvm.MethodName)) ∈ cb_TB := cb_i6 78 rfl rfl
theorem cw_1279 : (Jvm.Cond.static ({ cls := "CauseBookModel", name := "has", desc := "(II)Z" } : Jvm.MethodName)) ∈ cb_TB := cb_i6 79 rfl rfl
theorem cw_1280 : (Jvm.Cond.code ({ cls := "CauseBookModel", name := "has", desc := "(II)Z" } : Jvm.MethodName) prog_13_method_5_code (2 : Nat) (Option.some Jvm.ClassFile.FieldType.boolean)) ∈ cb_TB := cb_i6 80 rfl rfl
theorem cw_1281 : (Jvm.Cond.methodLink "CauseBookModel" (160 : Nat) ({ cls := "CauseBookModel", name := "eventBrought", desc := "(I)I" } : Jvm.MethodName)) ∈ cb_TB := cb_i6 81 rfl rfl
theorem cw_1283 : (Jvm.Cond.instanceMethod ({ cls := "CauseBookModel", name := "eventBrought", desc := "(I)I" } : Jvm.MethodName)) ∈ cb_TB := cb_i6 83 rfl rfl
theorem cw_1284 : (Jvm.Cond.code ({ cls := "CauseBookModel", name := "eventBrought", desc := "(I)I" } : Jvm.MethodName) prog_13_method_41_code (2 : Nat) (Option.some Jvm.ClassFile.FieldType.int)) ∈ cb_TB := cb_i6 84 rfl rfl
theorem cw_1285 : (Jvm.Cond.methodLink "CauseBookModel" (163 : Nat) ({ cls := "CauseBookModel", name := "brought", desc := "(II)I" } : Jvm.MethodName)) ∈ cb_TB := cb_i6 85 rfl rfl
theorem cw_1287 : (Jvm.Cond.instanceMethod ({ cls := "CauseBookModel", name := "brought", desc := "(II)I" } : Jvm.MethodName)) ∈ cb_TB := cb_i6 87 rfl rfl
theorem cw_1288 : (Jvm.Cond.code ({ cls := "CauseBookModel", name := "brought", desc := "(II)I" } : Jvm.MethodName) prog_13_method_40_code (17 : Nat) (Option.some Jvm.ClassFile.FieldType.int)) ∈ cb_TB := cb_i6 88 rfl rfl
theorem cw_1289 : (Jvm.Cond.methodLink "CauseBookModel" (150 : Nat) ({ cls := "CauseBookModel", name := "isKind", desc := "(II)Z" } : Jvm.MethodName)) ∈ cb_TB := cb_i6 89 rfl rfl
theorem cw_1291 : (Jvm.Cond.instanceMethod ({ cls := "CauseBookModel", name := "isKind", desc := "(II)Z" } : Jvm.MethodName)) ∈ cb_TB := cb_i6 91 rfl rfl
theorem cw_1292 : (Jvm.Cond.code ({ cls := "CauseBookModel", name := "isKind", desc := "(II)Z" } : Jvm.MethodName) prog_13_method_39_code (3 : Nat) (Option.some Jvm.ClassFile.FieldType.boolean)) ∈ cb_TB := cb_i6 92 rfl rfl
theorem cw_1293 : (Jvm.Cond.methodLink "CauseBookModel" (153 : Nat) ({ cls := "CauseBookModel", name := "timeOf", desc := "(II)I" } : Jvm.MethodName)) ∈ cb_TB := cb_i6 93 rfl rfl
theorem cw_1295 : (Jvm.Cond.instanceMethod ({ cls := "CauseBookModel", name := "timeOf", desc := "(II)I" } : Jvm.MethodName)) ∈ cb_TB := cb_i6 95 rfl rfl
theorem cw_1296 : (Jvm.Cond.code ({ cls := "CauseBookModel", name := "timeOf", desc := "(II)I" } : Jvm.MethodName) prog_13_method_38_code (3 : Nat) (Option.some Jvm.ClassFile.FieldType.int)) ∈ cb_TB := cb_i6 96 rfl rfl
theorem cw_1298 : (Jvm.Cond.instanceMethod ({ cls := "CauseBookModel", name := "spread", desc := "(II)I" } : Jvm.MethodName)) ∈ cb_TB := cb_i6 98 rfl rfl
theorem cw_1299 : (Jvm.Cond.selects "CauseBookModel" ({ cls := "CauseBookModel", name := "spread", desc := "(II)I" } : Jvm.MethodName) ({ cls := "CauseBookModel", name := "spread", desc := "(II)I" } : Jvm.MethodName)) ∈ cb_TB := cb_i6 99 rfl rfl
theorem cw_1300 : (Jvm.Cond.code ({ cls := "CauseBookModel", name := "spread", desc := "(II)I" } : Jvm.MethodName) prog_13_method_49_code (7 : Nat) (Option.some Jvm.ClassFile.FieldType.int)) ∈ cb_TB := cb_i6 100 rfl rfl
theorem cw_1301 : (Jvm.Cond.methodLink "CauseBookModel" (182 : Nat) ({ cls := "CauseBookModel", name := "rulesBy", desc := "()I" } : Jvm.MethodName)) ∈ cb_TB := cb_i6 101 rfl rfl
theorem cw_1303 : (Jvm.Cond.instanceMethod ({ cls := "CauseBookModel", name := "rulesBy", desc := "()I" } : Jvm.MethodName)) ∈ cb_TB := cb_i6 103 rfl rfl
theorem cw_1304 : (Jvm.Cond.code ({ cls := "CauseBookModel", name := "rulesBy", desc := "()I" } : Jvm.MethodName) prog_13_method_48_code (5 : Nat) (Option.some Jvm.ClassFile.FieldType.int)) ∈ cb_TB := cb_i6 104 rfl rfl
theorem cw_1306 : (Jvm.Cond.instanceMethod ({ cls := "CauseBookModel", name := "code", desc := "(I)I" } : Jvm.MethodName)) ∈ cb_TB := cb_i6 106 rfl rfl
theorem cw_1307 : (Jvm.Cond.selects "CauseBookModel" ({ cls := "CauseBookModel", name := "code", desc := "(I)I" } : Jvm.MethodName) ({ cls := "CauseBookModel", name := "code", desc := "(I)I" } : Jvm.MethodName)) ∈ cb_TB := cb_i6 107 rfl rfl
theorem cw_1308 : (Jvm.Cond.code ({ cls := "CauseBookModel", name := "code", desc := "(I)I" } : Jvm.MethodName) prog_13_method_50_code (2 : Nat) (Option.some Jvm.ClassFile.FieldType.int)) ∈ cb_TB := cb_i6 108 rfl rfl
theorem cw_1309 : (Jvm.Cond.methodLink "CauseBookModel" (176 : Nat) ({ cls := "CauseBookModel", name := "codeOf", desc := "(I)I" } : Jvm.MethodName)) ∈ cb_TB := cb_i6 109 rfl rfl
theorem cw_1311 : (Jvm.Cond.instanceMethod ({ cls := "CauseBookModel", name := "codeOf", desc := "(I)I" } : Jvm.MethodName)) ∈ cb_TB := cb_i6 111 rfl rfl
theorem cw_1312 : (Jvm.Cond.code ({ cls := "CauseBookModel", name := "codeOf", desc := "(I)I" } : Jvm.MethodName) prog_13_method_45_code (2 : Nat) (Option.some Jvm.ClassFile.FieldType.int)) ∈ cb_TB := cb_i6 112 rfl rfl
theorem cw_1313 : (Jvm.Cond.methodLink "CauseBookModel" (172 : Nat) ({ cls := "CauseBookModel", name := "signsOf", desc := "()I" } : Jvm.MethodName)) ∈ cb_TB := cb_i6 113 rfl rfl
theorem cw_1315 : (Jvm.Cond.instanceMethod ({ cls := "CauseBookModel", name := "signsOf", desc := "()I" } : Jvm.MethodName)) ∈ cb_TB := cb_i6 115 rfl rfl
theorem cw_1316 : (Jvm.Cond.code ({ cls := "CauseBookModel", name := "signsOf", desc := "()I" } : Jvm.MethodName) prog_13_method_44_code (3 : Nat) (Option.some Jvm.ClassFile.FieldType.int)) ∈ cb_TB := cb_i6 116 rfl rfl
theorem cw_1317 : (Jvm.Cond.methodLink "CauseBookModel" (166 : Nat) ({ cls := "CauseBookModel", name := "signTime", desc := "(I)I" } : Jvm.MethodName)) ∈ cb_TB := cb_i6 117 rfl rfl
theorem cw_1319 : (Jvm.Cond.instanceMethod ({ cls := "CauseBookModel", name := "signTime", desc := "(I)I" } : Jvm.MethodName)) ∈ cb_TB := cb_i6 119 rfl rfl
theorem cw_1320 : (Jvm.Cond.code ({ cls := "CauseBookModel", name := "signTime", desc := "(I)I" } : Jvm.MethodName) prog_13_method_43_code (2 : Nat) (Option.some Jvm.ClassFile.FieldType.int)) ∈ cb_TB := cb_i6 120 rfl rfl
theorem cw_1322 : (Jvm.Cond.instanceMethod ({ cls := "CauseBookModel", name := "distance", desc := "(III)I" } : Jvm.MethodName)) ∈ cb_TB := cb_i6 122 rfl rfl
theorem cw_1323 : (Jvm.Cond.selects "CauseBookModel" ({ cls := "CauseBookModel", name := "distance", desc := "(III)I" } : Jvm.MethodName) ({ cls := "CauseBookModel", name := "distance", desc := "(III)I" } : Jvm.MethodName)) ∈ cb_TB := cb_i6 123 rfl rfl
theorem cw_1324 : (Jvm.Cond.code ({ cls := "CauseBookModel", name := "distance", desc := "(III)I" } : Jvm.MethodName) prog_13_method_53_code (4 : Nat) (Option.some Jvm.ClassFile.FieldType.int)) ∈ cb_TB := cb_i6 124 rfl rfl
theorem cw_1325 : (Jvm.Cond.methodLink "CauseBookModel" (185 : Nat) ({ cls := "CauseBookModel", name := "isCause", desc := "(I)Z" } : Jvm.MethodName)) ∈ cb_TB := cb_i6 125 rfl rfl
theorem cw_1327 : (Jvm.Cond.instanceMethod ({ cls := "CauseBookModel", name := "isCause", desc := "(I)Z" } : Jvm.MethodName)) ∈ cb_TB := cb_i6 127 rfl rfl
theorem cw_1328 : (Jvm.Cond.code ({ cls := "CauseBookModel", name := "isCause", desc := "(I)Z" } : Jvm.MethodName) prog_13_method_31_code (2 : Nat) (Option.some Jvm.ClassFile.FieldType.boolean)) ∈ cb_TB := cb_i6 128 rfl rfl
theorem cw_1329 : (Jvm.Cond.methodLink "CauseBookModel" (188 : Nat) ({ cls := "CauseBookModel", name := "layCodes", desc := "()V" } : Jvm.MethodName)) ∈ cb_TB := cb_i6 129 rfl rfl
theorem cw_1331 : (Jvm.Cond.instanceMethod ({ cls := "CauseBookModel", name := "layCodes", desc := "()V" } : Jvm.MethodName)) ∈ cb_TB := cb_i6 131 rfl rfl
theorem cw_1332 : (Jvm.Cond.code ({ cls := "CauseBookModel", name := "layCodes", desc := "()V" } : Jvm.MethodName) prog_13_method_46_code (2 : Nat) (Option.none : Option Jvm.ClassFile.FieldType)) ∈ cb_TB := cb_i6 132 rfl rfl
theorem cw_1333 : (Jvm.Cond.methodLink "CauseBookModel" (191 : Nat) ({ cls := "CauseBookModel", name := "apart", desc := "(II)I" } : Jvm.MethodName)) ∈ cb_TB := cb_i6 133 rfl rfl
theorem cw_1335 : (Jvm.Cond.instanceMethod ({ cls := "CauseBookModel", name := "apart", desc := "(II)I" } : Jvm.MethodName)) ∈ cb_TB := cb_i6 135 rfl rfl
theorem cw_1336 : (Jvm.Cond.code ({ cls := "CauseBookModel", name := "apart", desc := "(II)I" } : Jvm.MethodName) prog_13_method_51_code (3 : Nat) (Option.some Jvm.ClassFile.FieldType.int)) ∈ cb_TB := cb_i6 136 rfl rfl
theorem cw_1337 : (Jvm.Cond.methodLink "CauseBookModel" (194 : Nat) ({ cls := "CauseBookModel", name := "far", desc := "(III)I" } : Jvm.MethodName)) ∈ cb_TB := cb_i6 137 rfl rfl
theorem cw_1339 : (Jvm.Cond.instanceMethod ({ cls := "CauseBookModel", name := "far", desc := "(III)I" } : Jvm.MethodName)) ∈ cb_TB := cb_i6 139 rfl rfl
theorem cw_1340 : (Jvm.Cond.code ({ cls := "CauseBookModel", name := "far", desc := "(III)I" } : Jvm.MethodName) prog_13_method_52_code (4 : Nat) (Option.some Jvm.ClassFile.FieldType.int)) ∈ cb_TB := cb_i6 140 rfl rfl
theorem cw_1342 : (Jvm.Cond.instanceMethod ({ cls := "CauseBookModel", name := "reduce", desc := "(I)I" } : Jvm.MethodName)) ∈ cb_TB := cb_i6 142 rfl rfl
theorem cw_1343 : (Jvm.Cond.selects "CauseBookModel" ({ cls := "CauseBookModel", name := "reduce", desc := "(I)I" } : Jvm.MethodName) ({ cls := "CauseBookModel", name := "reduce", desc := "(I)I" } : Jvm.MethodName)) ∈ cb_TB := cb_i6 143 rfl rfl
theorem cw_1344 : (Jvm.Cond.code ({ cls := "CauseBookModel", name := "reduce", desc := "(I)I" } : Jvm.MethodName) prog_13_method_56_code (3 : Nat) (Option.some Jvm.ClassFile.FieldType.int)) ∈ cb_TB := cb_i6 144 rfl rfl
theorem cw_1345 : (Jvm.Cond.constantLong "CauseBookModel" (201 : Nat) (6 : Int64)) ∈ cb_TB := cb_i6 145 rfl rfl
theorem cw_1346 : (Jvm.Cond.methodLink "CauseBookModel" (203 : Nat) ({ cls := "CauseBookModel", name := "reducedTo", desc := "(I)I" } : Jvm.MethodName)) ∈ cb_TB := cb_i6 146 rfl rfl
theorem cw_1348 : (Jvm.Cond.instanceMethod ({ cls := "CauseBookModel", name := "reducedTo", desc := "(I)I" } : Jvm.MethodName)) ∈ cb_TB := cb_i6 148 rfl rfl
theorem cw_1349 : (Jvm.Cond.code ({ cls := "CauseBookModel", name := "reducedTo", desc := "(I)I" } : Jvm.MethodName) prog_13_method_55_code (4 : Nat) (Option.some Jvm.ClassFile.FieldType.int)) ∈ cb_TB := cb_i6 149 rfl rfl
theorem cw_1350 : (Jvm.Cond.methodLink "CauseBookModel" (198 : Nat) ({ cls := "CauseBookModel", name := "isEnough", desc := "(II)Z" } : Jvm.MethodName)) ∈ cb_TB := cb_i6 150 rfl rfl
theorem cw_1352 : (Jvm.Cond.instanceMethod ({ cls := "CauseBookModel", name := "isEnough", desc := "(II)Z" } : Jvm.MethodName)) ∈ cb_TB := cb_i6 152 rfl rfl
theorem cw_1353 : (Jvm.Cond.code ({ cls := "CauseBookModel", name := "isEnough", desc := "(II)Z" } : Jvm.MethodName) prog_13_method_54_code (7 : Nat) (Option.some Jvm.ClassFile.FieldType.boolean)) ∈ cb_TB := cb_i6 153 rfl rfl
theorem cw_1355 : (Jvm.Cond.instanceMethod ({ cls := "CauseBookModel", name := "reduced", desc := "(I)I" } : Jvm.MethodName)) ∈ cb_TB := cb_i6 155 rfl rfl
theorem cw_1356 : (Jvm.Cond.selects "CauseBookModel" ({ cls := "CauseBookModel", name := "reduced", desc := "(I)I" } : Jvm.MethodName) ({ cls := "CauseBookModel", name := "reduced", desc := "(I)I" } : Jvm.MethodName)) ∈ cb_TB := cb_i6 156 rfl rfl
theorem cw_1357 : (Jvm.Cond.code ({ cls := "CauseBookModel", name := "reduced", desc := "(I)I" } : Jvm.MethodName) prog_13_method_57_code (2 : Nat) (Option.some Jvm.ClassFile.FieldType.int)) ∈ cb_TB := cb_i6 157 rfl rfl
theorem cw_1359 : (Jvm.Cond.instanceMethod ({ cls := "CauseBookModel", name := "nearest", desc := "(I)I" } : Jvm.MethodName)) ∈ cb_TB := cb_i6 159 rfl rfl
theorem cw_1360 : (Jvm.Cond.selects "CauseBookModel" ({ cls := "CauseBookModel", name := "nearest", desc := "(I)I" } : Jvm.MethodName) ({ cls := "CauseBookModel", name := "nearest", desc := "(I)I" } : Jvm.MethodName)) ∈ cb_TB := cb_i6 160 rfl rfl
theorem cw_1361 : (Jvm.Cond.code ({ cls := "CauseBookModel", name := "nearest", desc := "(I)I" } : Jvm.MethodName) prog_13_method_60_code (2 : Nat) (Option.some Jvm.ClassFile.FieldType.int)) ∈ cb_TB := cb_i6 161 rfl rfl
theorem cw_1362 : (Jvm.Cond.methodLink "CauseBookModel" (215 : Nat) ({ cls := "CauseBookModel", name := "layNearest", desc := "(I)V" } : Jvm.MethodName)) ∈ cb_TB := cb_i6 162 rfl rfl
theorem cw_1364 : (Jvm.Cond.instanceMethod ({ cls := "CauseBookModel", name := "layNearest", desc := "(I)V" } : Jvm.MethodName)) ∈ cb_TB := cb_i6 164 rfl rfl
theorem cw_1365 : (Jvm.Cond.code ({ cls := "CauseBookModel", name := "layNearest", desc := "(I)V" } : Jvm.MethodName) prog_13_method_58_code (4 : Nat) (Option.none : Option Jvm.ClassFile.FieldType)) ∈ cb_TB := cb_i6 165 rfl rfl
theorem cw_1366 : (Jvm.Cond.methodLink "CauseBookModel" (218 : Nat) ({ cls := "CauseBookModel", name := "lowest", desc := "(I)I" } : Jvm.MethodName)) ∈ cb_TB := cb_i6 166 rfl rfl
theorem cw_1367 : (Jvm.Cond.static ({ cls := "CauseBookModel", name := "lowest", desc := "(I)I" } : Jvm.MethodName)) ∈ cb_TB := cb_i6 167 rfl rfl
theorem cw_1368 : (Jvm.Cond.code ({ cls := "CauseBookModel", name := "lowest", desc := "(I)I" } : Jvm.MethodName) prog_13_method_59_code (2 : Nat) (Option.some Jvm.ClassFile.FieldType.int)) ∈ cb_TB := cb_i6 168 rfl rfl
theorem cw_1370 : (Jvm.Cond.instanceMethod ({ cls := "CauseBookModel", name := "joint", desc := "(II)I" } : Jvm.MethodName)) ∈ cb_TB := cb_i6 170 rfl rfl
theorem cw_1371 : (Jvm.Cond.selects "CauseBookModel" ({ cls := "CauseBookModel", name := "joint", desc := "(II)I" } : Jvm.MethodName) ({ cls := "CauseBookModel", name := "joint", desc := "(II)I" } : Jvm.MethodName)) ∈ cb_TB := cb_i6 171 rfl rfl
theorem cw_1372 : (Jvm.Cond.code ({ cls := "CauseBookModel", name := "joint", desc := "(II)I" } : Jvm.MethodName) prog_13_method_61_code (8 : Nat) (Option.some Jvm.ClassFile.FieldType.int)) ∈ cb_TB := cb_i6 172 rfl rfl
theorem cw_1374 : (Jvm.Cond.instanceMethod ({ cls := "CauseBookModel", name := "odds", desc := "(II)J" } : Jvm.MethodName)) ∈ cb_TB := cb_i6 174 rfl rfl
theorem cw_1375 : (Jvm.Cond.selects "CauseBookModel" ({ cls := "CauseBookModel", name := "odds", desc := "(II)J" } : Jvm.MethodName) ({ cls := "CauseBookModel", name := "odds", desc := "(II)J" } : Jvm.MethodName)) ∈ cb_TB := cb_i6 175 rfl rfl
theorem cw_1376 : (Jvm.Cond.code ({ cls := "CauseBookModel", name := "odds", desc := "(II)J" } : Jvm.MethodName) prog_13_method_65_code (7 : Nat) (Option.some Jvm.ClassFile.FieldType.long)) ∈ cb_TB := cb_i6 176 rfl rfl
theorem cw_1377 : (Jvm.Cond.constantLong "CauseBookModel" (225 : Nat) (-1 : Int64)) ∈ cb_TB := cb_i6 177 rfl rfl
theorem cw_1378 : (Jvm.Cond.methodLink "CauseBookModel" (227 : Nat) ({ cls := "CauseBookModel", name := "weighed", desc := "(I)J" } : Jvm.MethodName)) ∈ cb_TB := cb_i6 178 rfl rfl
theorem cw_1380 : (Jvm.Cond.instanceMethod ({ cls := "CauseBookModel", name := "weighed", desc := "(I)J" } : Jvm.MethodName)) ∈ cb_TB := cb_i6 180 rfl rfl
theorem cw_1381 : (Jvm.Cond.code ({ cls := "CauseBookModel", name := "weighed", desc := "(I)J" } : Jvm.MethodName) prog_13_method_63_code (2 : Nat) (Option.some Jvm.ClassFile.FieldType.long)) ∈ cb_TB := cb_i6 181 rfl rfl
theorem cw_1382 : (Jvm.Cond.methodLink "CauseBookModel" (221 : Nat) ({ cls := "CauseBookModel", name := "likely", desc := "(I)J" } : Jvm.MethodName)) ∈ cb_TB := cb_i6 182 rfl rfl
theorem cw_1384 : (Jvm.Cond.instanceMethod ({ cls := "CauseBookModel", name := "likely", desc := "(I)J" } : Jvm.MethodName)) ∈ cb_TB := cb_i6 184 rfl rfl
theorem cw_1385 : (Jvm.Cond.code ({ cls := "CauseBookModel", name := "likely", desc := "(I)J" } : Jvm.MethodName) prog_13_method_62_code (6 : Nat) (Option.some Jvm.ClassFile.FieldType.long)) ∈ cb_TB := cb_i6 185 rfl rfl
theorem cw_1386 : (Jvm.Cond.methodLink "CauseBookModel" (230 : Nat) ({ cls := "CauseBookModel", name := "common", desc := "(JJ)J" } : Jvm.MethodName)) ∈ cb_TB := cb_i6 186 rfl rfl
theorem cw_1387 : (Jvm.Cond.static ({ cls := "CauseBookModel", name := "common", desc := "(JJ)J" } : Jvm.MethodName)) ∈ cb_TB := cb_i6 187 rfl rfl
theorem cw_1388 : (Jvm.Cond.code ({ cls := "CauseBookModel", name := "common", desc := "(JJ)J" } : Jvm.MethodName) prog_13_method_64_code (10 : Nat) (Option.some Jvm.ClassFile.FieldType.long)) ∈ cb_TB := cb_i6 188 rfl rfl
theorem cw_1390 : (Jvm.Cond.instanceMethod ({ cls := "CauseBookModel", name := "likeliest", desc := "(I)I" } : Jvm.MethodName)) ∈ cb_TB := cb_i6 190 rfl rfl
theorem cw_1391 : (Jvm.Cond.selects "CauseBookModel" ({ cls := "CauseBookModel", name := "likeliest", desc := "(I)I" } : Jvm.MethodName) ({ cls := "CauseBookModel", name := "likeliest", desc := "(I)I" } : Jvm.MethodName)) ∈ cb_TB := cb_i6 191 rfl rfl
theorem cw_1392 : (Jvm.Cond.code ({ cls := "CauseBookModel", name := "likeliest", desc := "(I)I" } : Jvm.MethodName) prog_13_method_66_code (7 : Nat) (Option.some Jvm.ClassFile.FieldType.int)) ∈ cb_TB := cb_i6 192 rfl rfl
theorem cw_1394 : (Jvm.Cond.instanceMethod ({ cls := "CauseBookModel", name := "ranked", desc := "(I)I" } : Jvm.MethodName)) ∈ cb_TB := cb_i6 194 rfl rfl
theorem cw_1395 : (Jvm.Cond.selects "CauseBookModel" ({ cls := "CauseBookModel", name := "ranked", desc := "(I)I" } : Jvm.MethodName) ({ cls := "CauseBookModel", name := "ranked", desc := "(I)I" } : Jvm.MethodName)) ∈ cb_TB := cb_i6 195 rfl rfl
theorem cw_1396 : (Jvm.Cond.code ({ cls := "CauseBookModel", name := "ranked", desc := "(I)I" } : Jvm.MethodName) prog_13_method_68_code (4 : Nat) (Option.some Jvm.ClassFile.FieldType.int)) ∈ cb_TB := cb_i6 196 rfl rfl
theorem cw_1397 : (Jvm.Cond.methodLink "CauseBookModel" (234 : Nat) ({ cls := "CauseBookModel", name := "rankOf", desc := "(I)I" } : Jvm.MethodName)) ∈ cb_TB := cb_i6 197 rfl rfl
theorem cw_1399 : (Jvm.Cond.instanceMethod ({ cls := "CauseBookModel", name := "rankOf", desc := "(I)I" } : Jvm.MethodName)) ∈ cb_TB := cb_i6 199 rfl rfl
theorem cw_1400 : (Jvm.Cond.code ({ cls := "CauseBookModel", name := "rankOf", desc := "(I)I" } : Jvm.MethodName) prog_13_method_67_code (4 : Nat) (Option.some Jvm.ClassFile.FieldType.int)) ∈ cb_TB := cb_i6 200 rfl rfl
theorem cw_1402 : (Jvm.Cond.instanceMethod ({ cls := "CauseBookModel", name := "hold", desc := "(I)I" } : Jvm.MethodName)) ∈ cb_TB := cb_i6 202 rfl rfl
theorem cw_1403 : (Jvm.Cond.selects "CauseBookModel" ({ cls := "CauseBookModel", name := "hold", desc := "(I)I" } : Jvm.MethodName) ({ cls := "CauseBookModel", name := "hold", desc := "(I)I" } : Jvm.MethodName)) ∈ cb_TB := cb_i6 203 rfl rfl
theorem cw_1404 : (Jvm.Cond.code ({ cls := "CauseBookModel", name := "hold", desc := "(I)I" } : Jvm.MethodName) prog_13_method_69_code (5 : Nat) (Option.some Jvm.ClassFile.FieldType.int)) ∈ cb_TB := cb_i6 204 rfl rfl
theorem cw_1406 : (Jvm.Cond.instanceMethod ({ cls := "CauseBookModel", name := "minimal", desc := "(II)I" } : Jvm.MethodName)) ∈ cb_TB := cb_i6 206 rfl rfl
theorem cw_1407 : (Jvm.Cond.selects "CauseBookModel" ({ cls := "CauseBookModel", name := "minimal", desc := "(II)I" } : Jvm.MethodName) ({ cls := "CauseBookModel", name := "minimal", desc := "(II)I" } : Jvm.MethodName)) ∈ cb_TB := cb_i6 207 rfl rfl
theorem cw_1408 : (Jvm.Cond.code ({ cls := "CauseBookModel", name := "minimal", desc := "(II)I" } : Jvm.MethodName) prog_13_method_72_code (7 : Nat) (Option.some Jvm.ClassFile.FieldType.int)) ∈ cb_TB := cb_i6 208 rfl rfl
theorem cw_1409 : (Jvm.Cond.methodLink "CauseBookModel" (240 : Nat) ({ cls := "CauseBookModel", name := "isMinimal", desc := "(II)Z" } : Jvm.MethodName)) ∈ cb_TB := cb_i6 209 rfl rfl
theorem cw_1411 : (Jvm.Cond.instanceMethod ({ cls := "CauseBookModel", name := "isMinimal", desc := "(II)Z" } : Jvm.MethodName)) ∈ cb_TB := cb_i6 211 rfl rfl
theorem cw_1412 : (Jvm.Cond.code ({ cls := "CauseBookModel", name := "isMinimal", desc := "(II)Z" } : Jvm.MethodName) prog_13_method_71_code (5 : Nat) (Option.some Jvm.ClassFile.FieldType.boolean)) ∈ cb_TB := cb_i6 212 rfl rfl
theorem cw_1413 : (Jvm.Cond.methodLink "CauseBookModel" (237 : Nat) ({ cls := "CauseBookModel", name := "brings", desc := "(II)Z" } : Jvm.MethodName)) ∈ cb_TB := cb_i6 213 rfl rfl
theorem cw_1415 : (Jvm.Cond.instanceMethod ({ cls := "CauseBookModel", name := "brings", desc := "(II)Z" } : Jvm.MethodName)) ∈ cb_TB := cb_i6 215 rfl rfl
theorem cw_1416 : (Jvm.Cond.code ({ cls := "CauseBookModel", name := "brings", desc := "(II)Z" } : Jvm.MethodName) prog_13_method_70_code (3 : Nat) (Option.some Jvm.ClassFile.FieldType.boolean)) ∈ cb_TB := cb_i6 216 rfl rfl
theorem cw_1418 : (Jvm.Cond.instanceMethod ({ cls := "CauseBookModel", name := "groups", desc := "(I)I" } : Jvm.MethodName)) ∈ cb_TB := cb_i6 218 rfl rfl
theorem cw_1419 : (Jvm.Cond.selects "CauseBookModel" ({ cls := "CauseBookModel", name := "groups", desc := "(I)I" } : Jvm.MethodName) ({ cls := "CauseBookModel", name := "groups", desc := "(I)I" } : Jvm.MethodName)) ∈ cb_TB := cb_i6 219 rfl rfl
theorem cw_1420 : (Jvm.Cond.code ({ cls := "CauseBookModel", name := "groups", desc := "(I)I" } : Jvm.MethodName) prog_13_method_76_code (5 : Nat) (Option.some Jvm.ClassFile.FieldType.int)) ∈ cb_TB := cb_i6 220 rfl rfl
theorem cw_1421 : (Jvm.Cond.methodLink "CauseBookModel" (243 : Nat) ({ cls := "CauseBookModel", name := "groupOf", desc := "(I)I" } : Jvm.MethodName)) ∈ cb_TB := cb_i6 221 rfl rfl
theorem cw_1423 : (Jvm.Cond.instanceMethod ({ cls := "CauseBookModel", name := "groupOf", desc := "(I)I" } : Jvm.MethodName)) ∈ cb_TB := cb_i6 223 rfl rfl
theorem cw_1424 : (Jvm.Cond.code ({ cls := "CauseBookModel", name := "groupOf", desc := "(I)I" } : Jvm.MethodName) prog_13_method_73_code (4 : Nat) (Option.some Jvm.ClassFile.FieldType.int)) ∈ cb_TB := cb_i6 224 rfl rfl
theorem cw_1425 : (Jvm.Cond.methodLink "CauseBookModel" (246 : Nat) ({ cls := "CauseBookModel", name := "margin", desc := "()I" } : Jvm.MethodName)) ∈ cb_TB := cb_i6 225 rfl rfl
theorem cw_1427 : (Jvm.Cond.instanceMethod ({ cls := "CauseBookModel", name := "margin", desc := "()I" } : Jvm.MethodName)) ∈ cb_TB := cb_i6 227 rfl rfl
theorem cw_1428 : (Jvm.Cond.code ({ cls := "CauseBookModel", name := "margin", desc := "()I" } : Jvm.MethodName) prog_13_method_74_code (5 : Nat) (Option.some Jvm.ClassFile.FieldType.int)) ∈ cb_TB := cb_i6 228 rfl rfl
theorem cw_1429 : (Jvm.Cond.methodLink "CauseBookModel" (249 : Nat) ({ cls := "CauseBookModel", name := "emptyOnes", desc := "()I" } : Jvm.MethodName)) ∈ cb_TB := cb_i6 229 rfl rfl
theorem cw_1431 : (Jvm.Cond.instanceMethod ({ cls := "CauseBookModel", name := "emptyOnes", desc := "()I" } : Jvm.MethodName)) ∈ cb_TB := cb_i6 231 rfl rfl
theorem cw_1432 : (Jvm.Cond.code ({ cls := "CauseBookModel", name := "emptyOnes", desc := "()I" } : Jvm.MethodName) prog_13_method_75_code (3 : Nat) (Option.some Jvm.ClassFile.FieldType.int)) ∈ cb_TB := cb_i6 232 rfl rfl
theorem cw_1434 : (Jvm.Cond.instanceMethod ({ cls := "CauseBookModel", name := "group", desc := "(I)I" } : Jvm.MethodName)) ∈ cb_TB := cb_i6 234 rfl rfl
theorem cw_1435 : (Jvm.Cond.selects "CauseBookModel" ({ cls := "CauseBookModel", name := "group", desc := "(I)I" } : Jvm.MethodName) ({ cls := "CauseBookModel", name := "group", desc := "(I)I" } : Jvm.MethodName)) ∈ cb_TB := cb_i6 235 rfl rfl
theorem cw_1436 : (Jvm.Cond.code ({ cls := "CauseBookModel", name := "group", desc := "(I)I" } : Jvm.MethodName) prog_13_method_77_code (2 : Nat) (Option.some Jvm.ClassFile.FieldType.int)) ∈ cb_TB := cb_i6 236 rfl rfl
theorem cw_1438 : (Jvm.Cond.instanceMethod ({ cls := "CauseBookModel", name := "ask", desc := "(I)I" } : Jvm.MethodName)) ∈ cb_TB := cb_i6 238 rfl rfl
theorem cw_1439 : (Jvm.Cond.selects "CauseBookModel" ({ cls := "CauseBookModel", name := "ask", desc := "(I)I" } : Jvm.MethodName) ({ cls := "CauseBookModel", name := "ask", desc := "(I)I" } : Jvm.MethodName)) ∈ cb_TB := cb_i6 239 rfl rfl
theorem cw_1440 : (Jvm.Cond.code ({ cls := "CauseBookModel", name := "ask", desc := "(I)I" } : Jvm.MethodName) prog_13_method_78_code (8 : Nat) (Option.some Jvm.ClassFile.FieldType.int)) ∈ cb_TB := cb_i7 0 rfl rfl
theorem cw_1442 : (Jvm.Cond.instanceMethod ({ cls := "CauseBookModel", name := "weakest", desc := "(I)I" } : Jvm.MethodName)) ∈ cb_TB := cb_i7 2 rfl rfl
theorem cw_1443 : (Jvm.Cond.selects "CauseBookModel" ({ cls := "CauseBookModel", name := "weakest", desc := "(I)I" } : Jvm.MethodName) ({ cls := "CauseBookModel", name := "weakest", desc := "(I)I" } : Jvm.MethodName)) ∈ cb_TB := cb_i7 3 rfl rfl
theorem cw_1444 : (Jvm.Cond.code ({ cls := "CauseBookModel", name := "weakest", desc := "(I)I" } : Jvm.MethodName) prog_13_method_80_code (6 : Nat) (Option.some Jvm.ClassFile.FieldType.int)) ∈ cb_TB := cb_i7 4 rfl rfl
theorem cw_1445 : (Jvm.Cond.methodLink "CauseBookModel" (252 : Nat) ({ cls := "CauseBookModel", name := "without", desc := "(I)I" } : Jvm.MethodName)) ∈ cb_TB := cb_i7 5 rfl rfl
theorem cw_1447 : (Jvm.Cond.instanceMethod ({ cls := "CauseBookModel", name := "without", desc := "(I)I" } : Jvm.MethodName)) ∈ cb_TB := cb_i7 7 rfl rfl
theorem cw_1448 : (Jvm.Cond.code ({ cls := "CauseBookModel", name := "without", desc := "(I)I" } : Jvm.MethodName) prog_13_method_79_code (4 : Nat) (Option.some Jvm.ClassFile.FieldType.int)) ∈ cb_TB := cb_i7 8 rfl rfl
theorem cw_1450 : (Jvm.Cond.instanceMethod ({ cls := "CauseBookModel", name := "ordered", desc := "(II)I" } : Jvm.MethodName)) ∈ cb_TB := cb_i7 10 rfl rfl
theorem cw_1451 : (Jvm.Cond.selects "CauseBookModel" ({ cls := "CauseBookModel", name := "ordered", desc := "(II)I" } : Jvm.MethodName) ({ cls := "CauseBookModel", name := "ordered", desc := "(II)I" } : Jvm.MethodName)) ∈ cb_TB := cb_i7 11 rfl rfl
theorem cw_1452 : (Jvm.Cond.code ({ cls := "CauseBookModel", name := "ordered", desc := "(II)I" } : Jvm.MethodName) prog_13_method_82_code (5 : Nat) (Option.some Jvm.ClassFile.FieldType.int)) ∈ cb_TB := cb_i7 12 rfl rfl
theorem cw_1453 : (Jvm.Cond.methodLink "CauseBookModel" (255 : Nat) ({ cls := "CauseBookModel", name := "aheadOf", desc := "(I)I" } : Jvm.MethodName)) ∈ cb_TB := cb_i7 13 rfl rfl
theorem cw_1455 : (Jvm.Cond.instanceMethod ({ cls := "CauseBookModel", name := "aheadOf", desc := "(I)I" } : Jvm.MethodName)) ∈ cb_TB := cb_i7 15 rfl rfl
theorem cw_1456 : (Jvm.Cond.code ({ cls := "CauseBookModel", name := "aheadOf", desc := "(I)I" } : Jvm.MethodName) prog_13_method_81_code (4 : Nat) (Option.some Jvm.ClassFile.FieldType.int)) ∈ cb_TB := cb_i7 16 rfl rfl
theorem cw_1458 : (Jvm.Cond.instanceMethod ({ cls := "CauseBookModel", name := "sure", desc := "(I)I" } : Jvm.MethodName)) ∈ cb_TB := cb_i7 18 rfl rfl
theorem cw_1459 : (Jvm.Cond.selects "CauseBookModel" ({ cls := "CauseBookModel", name := "sure", desc := "(I)I" } : Jvm.MethodName) ({ cls := "CauseBookModel", name := "sure", desc := "(I)I" } : Jvm.MethodName)) ∈ cb_TB := cb_i7 19 rfl rfl
theorem cw_1460 : (Jvm.Cond.code ({ cls := "CauseBookModel", name := "sure", desc := "(I)I" } : Jvm.MethodName) prog_13_method_84_code (5 : Nat) (Option.some Jvm.ClassFile.FieldType.int)) ∈ cb_TB := cb_i7 20 rfl rfl
theorem cw_1461 : (Jvm.Cond.methodLink "CauseBookModel" (258 : Nat) ({ cls := "CauseBookModel", name := "signsBy", desc := "(I)I" } : Jvm.MethodName)) ∈ cb_TB := cb_i7 21 rfl rfl
theorem cw_1463 : (Jvm.Cond.instanceMethod ({ cls := "CauseBookModel", name := "signsBy", desc := "(I)I" } : Jvm.MethodName)) ∈ cb_TB := cb_i7 23 rfl rfl
theorem cw_1464 : (Jvm.Cond.code ({ cls := "CauseBookModel", name := "signsBy", desc := "(I)I" } : Jvm.MethodName) prog_13_method_83_code (4 : Nat) (Option.some Jvm.ClassFile.FieldType.int)) ∈ cb_TB := cb_i7 24 rfl rfl
theorem cw_1466 : (Jvm.Cond.instanceMethod ({ cls := "CauseBookModel", name := "busiest", desc := "(II)I" } : Jvm.MethodName)) ∈ cb_TB := cb_i7 26 rfl rfl
theorem cw_1467 : (Jvm.Cond.selects "CauseBookModel" ({ cls := "CauseBookModel", name := "busiest", desc := "(II)I" } : Jvm.MethodName) ({ cls := "CauseBookModel", name := "busiest", desc := "(II)I" } : Jvm.MethodName)) ∈ cb_TB := cb_i7 27 rfl rfl
theorem cw_1468 : (Jvm.Cond.code ({ cls := "CauseBookModel", name := "busiest", desc := "(II)I" } : Jvm.MethodName) prog_13_method_85_code (7 : Nat) (Option.some Jvm.ClassFile.FieldType.int)) ∈ cb_TB := cb_i7 28 rfl rfl
theorem cw_1470 : (Jvm.Cond.instanceMethod ({ cls := "CauseBookModel", name := "cuts", desc := "(III)I" } : Jvm.MethodName)) ∈ cb_TB := cb_i7 30 rfl rfl
theorem cw_1471 : (Jvm.Cond.selects "CauseBookModel" ({ cls := "CauseBookModel", name := "cuts", desc := "(III)I" } : Jvm.MethodName) ({ cls := "CauseBookModel", name := "cuts", desc := "(III)I" } : Jvm.MethodName)) ∈ cb_TB := cb_i7 31 rfl rfl
theorem cw_1472 : (Jvm.Cond.code ({ cls := "CauseBookModel", name := "cuts", desc := "(III)I" } : Jvm.MethodName) prog_13_method_87_code (7 : Nat) (Option.some Jvm.ClassFile.FieldType.int)) ∈ cb_TB := cb_i7 32 rfl rfl
theorem cw_1473 : (Jvm.Cond.methodLink "CauseBookModel" (261 : Nat) ({ cls := "CauseBookModel", name := "earliestFrom", desc := "(I)I" } : Jvm.MethodName)) ∈ cb_TB := cb_i7 33 rfl rfl
theorem cw_1475 : (Jvm.Cond.instanceMethod ({ cls := "CauseBookModel", name := "earliestFrom", desc := "(I)I" } : Jvm.MethodName)) ∈ cb_TB := cb_i7 35 rfl rfl
theorem cw_1476 : (Jvm.Cond.code ({ cls := "CauseBookModel", name := "earliestFrom", desc := "(I)I" } : Jvm.MethodName) prog_13_method_86_code (5 : Nat) (Option.some Jvm.ClassFile.FieldType.int)) ∈ cb_TB := cb_i7 36 rfl rfl
theorem cw_1478 : (Jvm.Cond.instanceMethod ({ cls := "CauseBookModel", name := "explains", desc := "(II)I" } : Jvm.MethodName)) ∈ cb_TB := cb_i7 38 rfl rfl
theorem cw_1479 : (Jvm.Cond.selects "CauseBookModel" ({ cls := "CauseBookModel", name := "explains", desc := "(II)I" } : Jvm.MethodName) ({ cls := "CauseBookModel", name := "explains", desc := "(II)I" } : Jvm.MethodName)) ∈ cb_TB := cb_i7 39 rfl rfl
theorem cw_1480 : (Jvm.Cond.code ({ cls := "CauseBookModel", name := "explains", desc := "(II)I" } : Jvm.MethodName) prog_13_method_89_code (3 : Nat) (Option.some Jvm.ClassFile.FieldType.int)) ∈ cb_TB := cb_i7 40 rfl rfl
theorem cw_1481 : (Jvm.Cond.methodLink "CauseBookModel" (264 : Nat) ({ cls := "CauseBookModel", name := "explained", desc := "(I)I" } : Jvm.MethodName)) ∈ cb_TB := cb_i7 41 rfl rfl
theorem cw_1483 : (Jvm.Cond.instanceMethod ({ cls := "CauseBookModel", name := "explained", desc := "(I)I" } : Jvm.MethodName)) ∈ cb_TB := cb_i7 43 rfl rfl
theorem cw_1484 : (Jvm.Cond.code ({ cls := "CauseBookModel", name := "explained", desc := "(I)I" } : Jvm.MethodName) prog_13_method_88_code (6 : Nat) (Option.some Jvm.ClassFile.FieldType.int)) ∈ cb_TB := cb_i7 44 rfl rfl
theorem cw_1486 : (Jvm.Cond.instanceMethod ({ cls := "CauseBookModel", name := "best", desc := "(II)I" } : Jvm.MethodName)) ∈ cb_TB := cb_i7 46 rfl rfl
theorem cw_1487 : (Jvm.Cond.selects "CauseBookModel" ({ cls := "CauseBookModel", name := "best", desc := "(II)I" } : Jvm.MethodName) ({ cls := "CauseBookModel", name := "best", desc := "(II)I" } : Jvm.MethodName)) ∈ cb_TB := cb_i7 47 rfl rfl
theorem cw_1488 : (Jvm.Cond.code ({ cls := "CauseBookModel", name := "best", desc := "(II)I" } : Jvm.MethodName) prog_13_method_90_code (7 : Nat) (Option.some Jvm.ClassFile.FieldType.int)) ∈ cb_TB := cb_i7 48 rfl rfl
theorem cw_1490 : (Jvm.Cond.instanceMethod ({ cls := "CauseBookModel", name := "cover", desc := "()I" } : Jvm.MethodName)) ∈ cb_TB := cb_i7 50 rfl rfl
theorem cw_1491 : (Jvm.Cond.selects "CauseBookModel" ({ cls := "CauseBookModel", name := "cover", desc := "()I" } : Jvm.MethodName) ({ cls := "CauseBookModel", name := "cover", desc := "()I" } : Jvm.MethodName)) ∈ cb_TB := cb_i7 51 rfl rfl
theorem cw_1492 : (Jvm.Cond.code ({ cls := "CauseBookModel", name := "cover", desc := "()I" } : Jvm.MethodName) prog_13_method_96_code (4 : Nat) (Option.some Jvm.ClassFile.FieldType.int)) ∈ cb_TB := cb_i7 52 rfl rfl
theorem cw_1493 : (Jvm.Cond.methodLink "CauseBookModel" (279 : Nat) ({ cls := "CauseBookModel", name := "laySets", desc := "()V" } : Jvm.MethodName)) ∈ cb_TB := cb_i7 53 rfl rfl
theorem cw_1495 : (Jvm.Cond.instanceMethod ({ cls := "CauseBookModel", name := "laySets", desc := "()V" } : Jvm.MethodName)) ∈ cb_TB := cb_i7 55 rfl rfl
theorem cw_1496 : (Jvm.Cond.code ({ cls := "CauseBookModel", name := "laySets", desc := "()V" } : Jvm.MethodName) prog_13_method_92_code (3 : Nat) (Option.none : Option Jvm.ClassFile.FieldType)) ∈ cb_TB := cb_i7 56 rfl rfl
theorem cw_1497 : (Jvm.Cond.methodLink "CauseBookModel" (270 : Nat) ({ cls := "CauseBookModel", name := "addSet", desc := "(I)V" } : Jvm.MethodName)) ∈ cb_TB := cb_i7 57 rfl rfl
theorem cw_1499 : (Jvm.Cond.instanceMethod ({ cls := "CauseBookModel", name := "addSet", desc := "(I)V" } : Jvm.MethodName)) ∈ cb_TB := cb_i7 59 rfl rfl
theorem cw_1500 : (Jvm.Cond.code ({ cls := "CauseBookModel", name := "addSet", desc := "(I)V" } : Jvm.MethodName) prog_13_method_91_code (4 : Nat) (Option.none : Option Jvm.ClassFile.FieldType)) ∈ cb_TB := cb_i7 60 rfl rfl
theorem cw_1501 : (Jvm.Cond.methodLink "CauseBookModel" (282 : Nat) ({ cls := "CauseBookModel", name := "areCovered", desc := "(II)Z" } : Jvm.MethodName)) ∈ cb_TB := cb_i7 61 rfl rfl
theorem cw_1503 : (Jvm.Cond.instanceMethod ({ cls := "CauseBookModel", name := "areCovered", desc := "(II)Z" } : Jvm.MethodName)) ∈ cb_TB := cb_i7 63 rfl rfl
theorem cw_1504 : (Jvm.Cond.code ({ cls := "CauseBookModel", name := "areCovered", desc := "(II)Z" } : Jvm.MethodName) prog_13_method_93_code (6 : Nat) (Option.some Jvm.ClassFile.FieldType.boolean)) ∈ cb_TB := cb_i7 64 rfl rfl
theorem cw_1505 : (Jvm.Cond.methodLink "CauseBookModel" (273 : Nat) ({ cls := "CauseBookModel", name := "coveredBehind", desc := "(II)Z" } : Jvm.MethodName)) ∈ cb_TB := cb_i7 65 rfl rfl
theorem cw_1507 : (Jvm.Cond.instanceMethod ({ cls := "CauseBookModel", name := "coveredBehind", desc := "(II)Z" } : Jvm.MethodName)) ∈ cb_TB := cb_i7 67 rfl rfl
theorem cw_1508 : (Jvm.Cond.code ({ cls := "CauseBookModel", name := "coveredBehind", desc := "(II)Z" } : Jvm.MethodName) prog_13_method_94_code (6 : Nat) (Option.some Jvm.ClassFile.FieldType.boolean)) ∈ cb_TB := cb_i7 68 rfl rfl
theorem cw_1509 : (Jvm.Cond.methodLink "CauseBookModel" (276 : Nat) ({ cls := "CauseBookModel", name := "coveredLast", desc := "(II)Z" } : Jvm.MethodName)) ∈ cb_TB := cb_i7 69 rfl rfl
theorem cw_1511 : (Jvm.Cond.instanceMethod ({ cls := "CauseBookModel", name := "coveredLast", desc := "(II)Z" } : Jvm.MethodName)) ∈ cb_TB := cb_i7 71 rfl rfl
theorem cw_1512 : (Jvm.Cond.code ({ cls := "CauseBookModel", name := "coveredLast", desc := "(II)Z" } : Jvm.MethodName) prog_13_method_95_code (5 : Nat) (Option.some Jvm.ClassFile.FieldType.boolean)) ∈ cb_TB := cb_i7 72 rfl rfl
theorem cw_1514 : (Jvm.Cond.instanceMethod ({ cls := "CauseBookModel", name := "ofCause", desc := "(II)I" } : Jvm.MethodName)) ∈ cb_TB := cb_i7 74 rfl rfl
theorem cw_1515 : (Jvm.Cond.selects "CauseBookModel" ({ cls := "CauseBookModel", name := "ofCause", desc := "(II)I" } : Jvm.MethodName) ({ cls := "CauseBookModel", name := "ofCause", desc := "(II)I" } : Jvm.MethodName)) ∈ cb_TB := cb_i7 75 rfl rfl
theorem cw_1516 : (Jvm.Cond.code ({ cls := "CauseBookModel", name := "ofCause", desc := "(II)I" } : Jvm.MethodName) prog_13_method_97_code (8 : Nat) (Option.some Jvm.ClassFile.FieldType.int)) ∈ cb_TB := cb_i7 76 rfl rfl
theorem cw_1518 : (Jvm.Cond.instanceMethod ({ cls := "CauseBookModel", name := "ofSign", desc := "(II)I" } : Jvm.MethodName)) ∈ cb_TB := cb_i7 78 rfl rfl
theorem cw_1519 : (Jvm.Cond.selects "CauseBookModel" ({ cls := "CauseBookModel", name := "ofSign", desc := "(II)I" } : Jvm.MethodName) ({ cls := "CauseBookModel", name := "ofSign", desc := "(II)I" } : Jvm.MethodName)) ∈ cb_TB := cb_i7 79 rfl rfl
theorem cw_1520 : (Jvm.Cond.code ({ cls := "CauseBookModel", name := "ofSign", desc := "(II)I" } : Jvm.MethodName) prog_13_method_98_code (5 : Nat) (Option.some Jvm.ClassFile.FieldType.int)) ∈ cb_TB := cb_i7 80 rfl rfl
theorem cw_1522 : (Jvm.Cond.instanceMethod ({ cls := "CauseBookModel", name := "ofObject", desc := "(II)I" } : Jvm.MethodName)) ∈ cb_TB := cb_i7 82 rfl rfl
theorem cw_1523 : (Jvm.Cond.selects "CauseBookModel" ({ cls := "CauseBookModel", name := "ofObject", desc := "(II)I" } : Jvm.MethodName) ({ cls := "CauseBookModel", name := "ofObject", desc := "(II)I" } : Jvm.MethodName)) ∈ cb_TB := cb_i7 83 rfl rfl
theorem cw_1524 : (Jvm.Cond.code ({ cls := "CauseBookModel", name := "ofObject", desc := "(II)I" } : Jvm.MethodName) prog_13_method_99_code (7 : Nat) (Option.some Jvm.ClassFile.FieldType.int)) ∈ cb_TB := cb_i7 84 rfl rfl
theorem cw_1526 : (Jvm.Cond.instanceMethod ({ cls := "CauseBookModel", name := "ofRule", desc := "(II)I" } : Jvm.MethodName)) ∈ cb_TB := cb_i7 86 rfl rfl
theorem cw_1527 : (Jvm.Cond.selects "CauseBookModel" ({ cls := "CauseBookModel", name := "ofRule", desc := "(II)I" } : Jvm.MethodName) ({ cls := "CauseBookModel", name := "ofRule", desc := "(II)I" } : Jvm.MethodName)) ∈ cb_TB := cb_i7 87 rfl rfl
theorem cw_1528 : (Jvm.Cond.code ({ cls := "CauseBookModel", name := "ofRule", desc := "(II)I" } : Jvm.MethodName) prog_13_method_100_code (3 : Nat) (Option.some Jvm.ClassFile.FieldType.int)) ∈ cb_TB := cb_i7 88 rfl rfl
theorem cw_1530 : (Jvm.Cond.instanceMethod ({ cls := "CauseBookModel", name := "count", desc := "(I)I" } : Jvm.MethodName)) ∈ cb_TB := cb_i7 90 rfl rfl
theorem cw_1531 : (Jvm.Cond.selects "CauseBookModel" ({ cls := "CauseBookModel", name := "count", desc := "(I)I" } : Jvm.MethodName) ({ cls := "CauseBookModel", name := "count", desc := "(I)I" } : Jvm.MethodName)) ∈ cb_TB := cb_i7 91 rfl rfl
theorem cw_1532 : (Jvm.Cond.code ({ cls := "CauseBookModel", name := "count", desc := "(I)I" } : Jvm.MethodName) prog_13_method_101_code (2 : Nat) (Option.some Jvm.ClassFile.FieldType.int)) ∈ cb_TB := cb_i7 92 rfl rfl
theorem cw_1533 : (Jvm.Cond.constantLong "CauseBookModel" (285 : Nat) (13 : Int64)) ∈ cb_TB := cb_i7 93 rfl rfl
theorem cw_1535 : (Jvm.Cond.instanceMethod ({ cls := "CauseBookModel", name := "status", desc := "()I" } : Jvm.MethodName)) ∈ cb_TB := cb_i7 95 rfl rfl
theorem cw_1536 : (Jvm.Cond.selects "CauseBookModel" ({ cls := "CauseBookModel", name := "status", desc := "()I" } : Jvm.MethodName) ({ cls := "CauseBookModel", name := "status", desc := "()I" } : Jvm.MethodName)) ∈ cb_TB := cb_i7 96 rfl rfl
theorem cw_1537 : (Jvm.Cond.code ({ cls := "CauseBookModel", name := "status", desc := "()I" } : Jvm.MethodName) prog_13_method_102_code (1 : Nat) (Option.some Jvm.ClassFile.FieldType.int)) ∈ cb_TB := cb_i7 97 rfl rfl
theorem cp_0 : Cond.selects "CauseBook$Refusals" (⟨"CauseBook$Refusals", "refuse", "(I)I"⟩ : MethodName) (⟨"CauseBook$Refusals", "refuse", "(I)I"⟩ : MethodName) ∈ cb_TB := cb_inp 0 rfl rfl
theorem cp_1 : Cond.selects "CauseBook$Refusals" (⟨"CauseBook$Refusals", "accept", "()V"⟩ : MethodName) (⟨"CauseBook$Refusals", "accept", "()V"⟩ : MethodName) ∈ cb_TB := cb_inp 1 rfl rfl
theorem cp_2 : Cond.selects "CauseBook$Model" (⟨"CauseBook$Model", "marksOf", "(I[I)I"⟩ : MethodName) (⟨"CauseBook$Model", "marksOf", "(I[I)I"⟩ : MethodName) ∈ cb_TB := cb_inp 2 rfl rfl
theorem cp_3 : Cond.selects "CauseBook" (⟨"CauseBook", "begin", "(I)V"⟩ : MethodName) (⟨"CauseBook", "begin", "(I)V"⟩ : MethodName) ∈ cb_TB := cb_inp 3 rfl rfl
theorem cp_4 : Cond.selects "CauseBook$History" (⟨"CauseBook$History", "keep", "(LCauseBook$Model;I)V"⟩ : MethodName) (⟨"CauseBook$History", "keep", "(LCauseBook$Model;I)V"⟩ : MethodName) ∈ cb_TB := cb_inp 4 rfl rfl
theorem cp_5 : Cond.selects "CauseBook$Model" (⟨"CauseBook$Model", "copyFrom", "(LCauseBook$Model;)V"⟩ : MethodName) (⟨"CauseBook$Model", "copyFrom", "(LCauseBook$Model;)V"⟩ : MethodName) ∈ cb_TB := cb_inp 5 rfl rfl
theorem cp_6 : Cond.selects "CauseBook$Model" (⟨"CauseBook$Model", "addObject", "(I)V"⟩ : MethodName) (⟨"CauseBook$Model", "addObject", "(I)V"⟩ : MethodName) ∈ cb_TB := cb_inp 6 rfl rfl
theorem cp_7 : Cond.selects "CauseBook" (⟨"CauseBook", "settle", "()V"⟩ : MethodName) (⟨"CauseBook", "settle", "()V"⟩ : MethodName) ∈ cb_TB := cb_inp 7 rfl rfl
theorem cp_8 : Cond.selects "CauseBook$Roll" (⟨"CauseBook$Roll", "call", "(LCauseBook$Model;[I)V"⟩ : MethodName) (⟨"CauseBook$Roll", "call", "(LCauseBook$Model;[I)V"⟩ : MethodName) ∈ cb_TB := cb_inp 8 rfl rfl
theorem cp_9 : Cond.selects "CauseBook$Codes" (⟨"CauseBook$Codes", "forget", "()V"⟩ : MethodName) (⟨"CauseBook$Codes", "forget", "()V"⟩ : MethodName) ∈ cb_TB := cb_inp 9 rfl rfl
theorem cp_10 : Cond.selects "CauseBook" (⟨"CauseBook", "startBookAnew", "()V"⟩ : MethodName) (⟨"CauseBook", "startBookAnew", "()V"⟩ : MethodName) ∈ cb_TB := cb_inp 10 rfl rfl
theorem cp_11 : Cond.selects "CauseBook$Model" (⟨"CauseBook$Model", "hasLink", "(III)Z"⟩ : MethodName) (⟨"CauseBook$Model", "hasLink", "(III)Z"⟩ : MethodName) ∈ cb_TB := cb_inp 11 rfl rfl
theorem cp_12 : Cond.selects "CauseBook$Model" (⟨"CauseBook$Model", "linkPart", "(II)I"⟩ : MethodName) (⟨"CauseBook$Model", "linkPart", "(II)I"⟩ : MethodName) ∈ cb_TB := cb_inp 12 rfl rfl
theorem cp_13 : Cond.selects "CauseBook$Model" (⟨"CauseBook$Model", "addLink", "(III)V"⟩ : MethodName) (⟨"CauseBook$Model", "addLink", "(III)V"⟩ : MethodName) ∈ cb_TB := cb_inp 13 rfl rfl
theorem cp_14 : Cond.selects "CauseBook$Model" (⟨"CauseBook$Model", "removeLink", "(I)V"⟩ : MethodName) (⟨"CauseBook$Model", "removeLink", "(I)V"⟩ : MethodName) ∈ cb_TB := cb_inp 14 rfl rfl
theorem cp_15 : Cond.selects "CauseBook$Model" (⟨"CauseBook$Model", "addRule", "(IIIII)V"⟩ : MethodName) (⟨"CauseBook$Model", "addRule", "(IIIII)V"⟩ : MethodName) ∈ cb_TB := cb_inp 15 rfl rfl
theorem cp_16 : Cond.selects "CauseBook$Model" (⟨"CauseBook$Model", "removeRule", "(I)V"⟩ : MethodName) (⟨"CauseBook$Model", "removeRule", "(I)V"⟩ : MethodName) ∈ cb_TB := cb_inp 16 rfl rfl
theorem cp_17 : Cond.selects "CauseBook$Model" (⟨"CauseBook$Model", "objectsOf", "(I)I"⟩ : MethodName) (⟨"CauseBook$Model", "objectsOf", "(I)I"⟩ : MethodName) ∈ cb_TB := cb_inp 17 rfl rfl
theorem cp_18 : Cond.selects "CauseBook$Codes" (⟨"CauseBook$Codes", "renew", "()V"⟩ : MethodName) (⟨"CauseBook$Codes", "renew", "()V"⟩ : MethodName) ∈ cb_TB := cb_inp 18 rfl rfl
theorem cp_19 : Cond.selects "CauseBook$Spreader" (⟨"CauseBook$Spreader", "readLinks", "(I)V"⟩ : MethodName) (⟨"CauseBook$Spreader", "readLinks", "(I)V"⟩ : MethodName) ∈ cb_TB := cb_inp 19 rfl rfl
theorem cp_20 : Cond.selects "CauseBook$Spreader" (⟨"CauseBook$Spreader", "flow", "(I)V"⟩ : MethodName) (⟨"CauseBook$Spreader", "flow", "(I)V"⟩ : MethodName) ∈ cb_TB := cb_inp 20 rfl rfl
theorem cp_21 : Cond.selects "CauseBook$Spreader" (⟨"CauseBook$Spreader", "bring", "(III)V"⟩ : MethodName) (⟨"CauseBook$Spreader", "bring", "(III)V"⟩ : MethodName) ∈ cb_TB := cb_inp 21 rfl rfl
theorem cp_22 : Cond.selects "CauseBook$Model" (⟨"CauseBook$Model", "ruleEvent", "(II)I"⟩ : MethodName) (⟨"CauseBook$Model", "ruleEvent", "(II)I"⟩ : MethodName) ∈ cb_TB := cb_inp 22 rfl rfl
theorem cp_23 : Cond.selects "CauseBook$Spreader" (⟨"CauseBook$Spreader", "apply", "(I)V"⟩ : MethodName) (⟨"CauseBook$Spreader", "apply", "(I)V"⟩ : MethodName) ∈ cb_TB := cb_inp 23 rfl rfl
theorem cp_24 : Cond.selects "CauseBook$Model" (⟨"CauseBook$Model", "rulePart", "(II)I"⟩ : MethodName) (⟨"CauseBook$Model", "rulePart", "(II)I"⟩ : MethodName) ∈ cb_TB := cb_inp 24 rfl rfl
theorem cp_25 : Cond.selects "CauseBook$Spreader" (⟨"CauseBook$Spreader", "applySame", "(I)V"⟩ : MethodName) (⟨"CauseBook$Spreader", "applySame", "(I)V"⟩ : MethodName) ∈ cb_TB := cb_inp 25 rfl rfl
theorem cp_26 : Cond.selects "CauseBook$Model" (⟨"CauseBook$Model", "ruleKind", "(II)I"⟩ : MethodName) (⟨"CauseBook$Model", "ruleKind", "(II)I"⟩ : MethodName) ∈ cb_TB := cb_inp 26 rfl rfl
theorem cp_27 : Cond.selects "CauseBook$Spreader" (⟨"CauseBook$Spreader", "timeOf", "(II)I"⟩ : MethodName) (⟨"CauseBook$Spreader", "timeOf", "(II)I"⟩ : MethodName) ∈ cb_TB := cb_inp 27 rfl rfl
theorem cp_28 : Cond.selects "CauseBook$Spreader" (⟨"CauseBook$Spreader", "applyOver", "(I[I)V"⟩ : MethodName) (⟨"CauseBook$Spreader", "applyOver", "(I[I)V"⟩ : MethodName) ∈ cb_TB := cb_inp 28 rfl rfl
theorem cp_29 : Cond.selects "CauseBook$Spreader" (⟨"CauseBook$Spreader", "applyOfSeveral", "(I)V"⟩ : MethodName) (⟨"CauseBook$Spreader", "applyOfSeveral", "(I)V"⟩ : MethodName) ∈ cb_TB := cb_inp 29 rfl rfl
theorem cp_30 : Cond.selects "CauseBook$Spreader" (⟨"CauseBook$Spreader", "lastOf", "(II)I"⟩ : MethodName) (⟨"CauseBook$Spreader", "lastOf", "(II)I"⟩ : MethodName) ∈ cb_TB := cb_inp 30 rfl rfl
theorem cp_31 : Cond.selects "CauseBook$Spreader" (⟨"CauseBook$Spreader", "secondOf", "(II)I"⟩ : MethodName) (⟨"CauseBook$Spreader", "secondOf", "(II)I"⟩ : MethodName) ∈ cb_TB := cb_inp 31 rfl rfl
theorem cp_32 : Cond.selects "CauseBook$Codes" (⟨"CauseBook$Codes", "codeOfFlow", "()I"⟩ : MethodName) (⟨"CauseBook$Codes", "codeOfFlow", "()I"⟩ : MethodName) ∈ cb_TB := cb_inp 32 rfl rfl
theorem cp_33 : Cond.selects "CauseBook$Reducer" (⟨"CauseBook$Reducer", "fewestSigns", "(I)I"⟩ : MethodName) (⟨"CauseBook$Reducer", "fewestSigns", "(I)I"⟩ : MethodName) ∈ cb_TB := cb_inp 33 rfl rfl
theorem cp_34 : Cond.selects "CauseBook$Reducer" (⟨"CauseBook$Reducer", "listPairs", "(I)V"⟩ : MethodName) (⟨"CauseBook$Reducer", "listPairs", "(I)V"⟩ : MethodName) ∈ cb_TB := cb_inp 34 rfl rfl
theorem cp_35 : Cond.selects "CauseBook$Reducer" (⟨"CauseBook$Reducer", "addPair", "(II)V"⟩ : MethodName) (⟨"CauseBook$Reducer", "addPair", "(II)V"⟩ : MethodName) ∈ cb_TB := cb_inp 35 rfl rfl
theorem cp_36 : Cond.selects "CauseBook$Reducer" (⟨"CauseBook$Reducer", "keepsApart", "(I)Z"⟩ : MethodName) (⟨"CauseBook$Reducer", "keepsApart", "(I)Z"⟩ : MethodName) ∈ cb_TB := cb_inp 36 rfl rfl
theorem cp_37 : Cond.selects "CauseBook$Model" (⟨"CauseBook$Model", "addEntry", "(II)V"⟩ : MethodName) (⟨"CauseBook$Model", "addEntry", "(II)V"⟩ : MethodName) ∈ cb_TB := cb_inp 37 rfl rfl
theorem cp_38 : Cond.selects "CauseBook$Chronicle" (⟨"CauseBook$Chronicle", "signsWithin", "(II)I"⟩ : MethodName) (⟨"CauseBook$Chronicle", "signsWithin", "(II)I"⟩ : MethodName) ∈ cb_TB := cb_inp 38 rfl rfl
theorem cp_39 : Cond.selects "CauseBook$History" (⟨"CauseBook$History", "takeBack", "(LCauseBook$Model;)I"⟩ : MethodName) (⟨"CauseBook$History", "takeBack", "(LCauseBook$Model;)I"⟩ : MethodName) ∈ cb_TB := cb_inp 39 rfl rfl
theorem cp_40 : Cond.selects "CauseBook" (⟨"CauseBook", "noSuchCauses", "(I)Z"⟩ : MethodName) (⟨"CauseBook", "noSuchCauses", "(I)Z"⟩ : MethodName) ∈ cb_TB := cb_inp 40 rfl rfl
theorem cp_41 : Cond.selects "CauseBook$Spreader" (⟨"CauseBook$Spreader", "factCount", "()I"⟩ : MethodName) (⟨"CauseBook$Spreader", "factCount", "()I"⟩ : MethodName) ∈ cb_TB := cb_inp 41 rfl rfl
theorem cp_42 : Cond.selects "CauseBook$Spreader" (⟨"CauseBook$Spreader", "latest", "()I"⟩ : MethodName) (⟨"CauseBook$Spreader", "latest", "()I"⟩ : MethodName) ∈ cb_TB := cb_inp 42 rfl rfl
theorem cp_43 : Cond.selects "CauseBook$Spreader" (⟨"CauseBook$Spreader", "touched", "()I"⟩ : MethodName) (⟨"CauseBook$Spreader", "touched", "()I"⟩ : MethodName) ∈ cb_TB := cb_inp 43 rfl rfl
theorem cp_44 : Cond.selects "CauseBook$Spreader" (⟨"CauseBook$Spreader", "bringers", "()I"⟩ : MethodName) (⟨"CauseBook$Spreader", "bringers", "()I"⟩ : MethodName) ∈ cb_TB := cb_inp 44 rfl rfl
theorem cp_45 : Cond.selects "CauseBook" (⟨"CauseBook", "noSuchCause", "(I)Z"⟩ : MethodName) (⟨"CauseBook", "noSuchCause", "(I)Z"⟩ : MethodName) ∈ cb_TB := cb_inp 45 rfl rfl
theorem cp_46 : Cond.selects "CauseBook$Decoder" (⟨"CauseBook$Decoder", "nearestTo", "(I)I"⟩ : MethodName) (⟨"CauseBook$Decoder", "nearestTo", "(I)I"⟩ : MethodName) ∈ cb_TB := cb_inp 46 rfl rfl
theorem cp_47 : Cond.selects "CauseBook$Decoder" (⟨"CauseBook$Decoder", "gap", "(II)I"⟩ : MethodName) (⟨"CauseBook$Decoder", "gap", "(II)I"⟩ : MethodName) ∈ cb_TB := cb_inp 47 rfl rfl
theorem cp_48 : Cond.selects "CauseBook$Decoder" (⟨"CauseBook$Decoder", "leastBeside", "(I)I"⟩ : MethodName) (⟨"CauseBook$Decoder", "leastBeside", "(I)I"⟩ : MethodName) ∈ cb_TB := cb_inp 48 rfl rfl
theorem cp_49 : Cond.selects "CauseBook$Codes" (⟨"CauseBook$Codes", "renewSets", "()V"⟩ : MethodName) (⟨"CauseBook$Codes", "renewSets", "()V"⟩ : MethodName) ∈ cb_TB := cb_inp 49 rfl rfl
theorem cp_50 : Cond.selects "CauseBook$Codes" (⟨"CauseBook$Codes", "listSets", "()V"⟩ : MethodName) (⟨"CauseBook$Codes", "listSets", "()V"⟩ : MethodName) ∈ cb_TB := cb_inp 50 rfl rfl
theorem cp_51 : Cond.selects "CauseBook$Codes" (⟨"CauseBook$Codes", "addSet", "(I)V"⟩ : MethodName) (⟨"CauseBook$Codes", "addSet", "(I)V"⟩ : MethodName) ∈ cb_TB := cb_inp 51 rfl rfl
theorem cp_52 : Cond.selects "CauseBook$Model" (⟨"CauseBook$Model", "hasRuleOfSeveral", "()Z"⟩ : MethodName) (⟨"CauseBook$Model", "hasRuleOfSeveral", "()Z"⟩ : MethodName) ∈ cb_TB := cb_inp 52 rfl rfl
theorem cp_53 : Cond.selects "CauseBook$Codes" (⟨"CauseBook$Codes", "unionOfCodes", "(I)I"⟩ : MethodName) (⟨"CauseBook$Codes", "unionOfCodes", "(I)I"⟩ : MethodName) ∈ cb_TB := cb_inp 53 rfl rfl
theorem cp_54 : Cond.selects "CauseBook$Decoder" (⟨"CauseBook$Decoder", "jointBy", "(I)I"⟩ : MethodName) (⟨"CauseBook$Decoder", "jointBy", "(I)I"⟩ : MethodName) ∈ cb_TB := cb_inp 54 rfl rfl
theorem cp_55 : Cond.selects "CauseBook$Chances" (⟨"CauseBook$Chances", "weigh", "()V"⟩ : MethodName) (⟨"CauseBook$Chances", "weigh", "()V"⟩ : MethodName) ∈ cb_TB := cb_inp 55 rfl rfl
theorem cp_56 : Cond.selects "CauseBook$Chances" (⟨"CauseBook$Chances", "likely", "(I)J"⟩ : MethodName) (⟨"CauseBook$Chances", "likely", "(I)J"⟩ : MethodName) ∈ cb_TB := cb_inp 56 rfl rfl
theorem cp_57 : Cond.selects "CauseBook$Chances" (⟨"CauseBook$Chances", "factor", "(ZZ)I"⟩ : MethodName) (⟨"CauseBook$Chances", "factor", "(ZZ)I"⟩ : MethodName) ∈ cb_TB := cb_inp 57 rfl rfl
theorem cp_58 : Cond.selects "CauseBook$Chances" (⟨"CauseBook$Chances", "atRank", "(I)I"⟩ : MethodName) (⟨"CauseBook$Chances", "atRank", "(I)I"⟩ : MethodName) ∈ cb_TB := cb_inp 58 rfl rfl
theorem cp_59 : Cond.selects "CauseBook$Chances" (⟨"CauseBook$Chances", "causesAhead", "(I)I"⟩ : MethodName) (⟨"CauseBook$Chances", "causesAhead", "(I)I"⟩ : MethodName) ∈ cb_TB := cb_inp 59 rfl rfl
theorem cp_60 : Cond.selects "CauseBook$Chances" (⟨"CauseBook$Chances", "howMany", "(J)I"⟩ : MethodName) (⟨"CauseBook$Chances", "howMany", "(J)I"⟩ : MethodName) ∈ cb_TB := cb_inp 60 rfl rfl
theorem cp_61 : Cond.selects "CauseBook$Decoder" (⟨"CauseBook$Decoder", "fewestThatTurn", "()I"⟩ : MethodName) (⟨"CauseBook$Decoder", "fewestThatTurn", "()I"⟩ : MethodName) ∈ cb_TB := cb_inp 61 rfl rfl
theorem cp_62 : Cond.selects "CauseBook$Codes" (⟨"CauseBook$Codes", "findMinimal", "(I)I"⟩ : MethodName) (⟨"CauseBook$Codes", "findMinimal", "(I)I"⟩ : MethodName) ∈ cb_TB := cb_inp 62 rfl rfl
theorem cp_63 : Cond.selects "CauseBook$Codes" (⟨"CauseBook$Codes", "holdsMinimal", "(II)Z"⟩ : MethodName) (⟨"CauseBook$Codes", "holdsMinimal", "(II)Z"⟩ : MethodName) ∈ cb_TB := cb_inp 63 rfl rfl
theorem cp_64 : Cond.selects "CauseBook$Codes" (⟨"CauseBook$Codes", "findWeakest", "()V"⟩ : MethodName) (⟨"CauseBook$Codes", "findWeakest", "()V"⟩ : MethodName) ∈ cb_TB := cb_inp 64 rfl rfl
theorem cp_65 : Cond.selects "CauseBook$Codes" (⟨"CauseBook$Codes", "changesWithout", "(I)I"⟩ : MethodName) (⟨"CauseBook$Codes", "changesWithout", "(I)I"⟩ : MethodName) ∈ cb_TB := cb_inp 65 rfl rfl
theorem cp_66 : Cond.selects "CauseBook$Codes" (⟨"CauseBook$Codes", "signAtRank", "(II)I"⟩ : MethodName) (⟨"CauseBook$Codes", "signAtRank", "(II)I"⟩ : MethodName) ∈ cb_TB := cb_inp 66 rfl rfl
theorem cp_67 : Cond.selects "CauseBook$Codes" (⟨"CauseBook$Codes", "signsAhead", "(II)I"⟩ : MethodName) (⟨"CauseBook$Codes", "signsAhead", "(II)I"⟩ : MethodName) ∈ cb_TB := cb_inp 67 rfl rfl
theorem cp_68 : Cond.selects "CauseBook$Codes" (⟨"CauseBook$Codes", "signTime", "(II)I"⟩ : MethodName) (⟨"CauseBook$Codes", "signTime", "(II)I"⟩ : MethodName) ∈ cb_TB := cb_inp 68 rfl rfl
theorem cp_69 : Cond.selects "CauseBook$Decoder" (⟨"CauseBook$Decoder", "sureFrom", "(I)I"⟩ : MethodName) (⟨"CauseBook$Decoder", "sureFrom", "(I)I"⟩ : MethodName) ∈ cb_TB := cb_inp 69 rfl rfl
theorem cp_70 : Cond.selects "CauseBook$Decoder" (⟨"CauseBook$Decoder", "causesLike", "(I)I"⟩ : MethodName) (⟨"CauseBook$Decoder", "causesLike", "(I)I"⟩ : MethodName) ∈ cb_TB := cb_inp 70 rfl rfl
theorem cp_71 : Cond.selects "CauseBook$Codes" (⟨"CauseBook$Codes", "signsBy", "(II)I"⟩ : MethodName) (⟨"CauseBook$Codes", "signsBy", "(II)I"⟩ : MethodName) ∈ cb_TB := cb_inp 71 rfl rfl
theorem cp_72 : Cond.selects "CauseBook$Codes" (⟨"CauseBook$Codes", "nextSignTime", "(II)I"⟩ : MethodName) (⟨"CauseBook$Codes", "nextSignTime", "(II)I"⟩ : MethodName) ∈ cb_TB := cb_inp 72 rfl rfl
theorem cp_73 : Cond.selects "CauseBook$Chronicle" (⟨"CauseBook$Chronicle", "busiestFrom", "(I)I"⟩ : MethodName) (⟨"CauseBook$Chronicle", "busiestFrom", "(I)I"⟩ : MethodName) ∈ cb_TB := cb_inp 73 rfl rfl
theorem cp_74 : Cond.selects "CauseBook$Decoder" (⟨"CauseBook$Decoder", "margin", "()I"⟩ : MethodName) (⟨"CauseBook$Decoder", "margin", "()I"⟩ : MethodName) ∈ cb_TB := cb_inp 74 rfl rfl
theorem cp_75 : Cond.selects "CauseBook$Decoder" (⟨"CauseBook$Decoder", "groupCount", "()I"⟩ : MethodName) (⟨"CauseBook$Decoder", "groupCount", "()I"⟩ : MethodName) ∈ cb_TB := cb_inp 75 rfl rfl
theorem cp_76 : Cond.selects "CauseBook$Decoder" (⟨"CauseBook$Decoder", "leastOfGroup", "(I)I"⟩ : MethodName) (⟨"CauseBook$Decoder", "leastOfGroup", "(I)I"⟩ : MethodName) ∈ cb_TB := cb_inp 76 rfl rfl
theorem cp_77 : Cond.selects "CauseBook$Codes" (⟨"CauseBook$Codes", "signsInNone", "()I"⟩ : MethodName) (⟨"CauseBook$Codes", "signsInNone", "()I"⟩ : MethodName) ∈ cb_TB := cb_inp 77 rfl rfl
theorem cp_78 : Cond.selects "CauseBook$Decoder" (⟨"CauseBook$Decoder", "bestQuestion", "()I"⟩ : MethodName) (⟨"CauseBook$Decoder", "bestQuestion", "()I"⟩ : MethodName) ∈ cb_TB := cb_inp 78 rfl rfl
theorem cp_79 : Cond.selects "CauseBook$Codes" (⟨"CauseBook$Codes", "causesWith", "(I)I"⟩ : MethodName) (⟨"CauseBook$Codes", "causesWith", "(I)I"⟩ : MethodName) ∈ cb_TB := cb_inp 79 rfl rfl
theorem cp_80 : Cond.selects "CauseBook$Chronicle" (⟨"CauseBook$Chronicle", "cutCount", "(I)I"⟩ : MethodName) (⟨"CauseBook$Chronicle", "cutCount", "(I)I"⟩ : MethodName) ∈ cb_TB := cb_inp 80 rfl rfl
theorem cp_81 : Cond.selects "CauseBook$Chronicle" (⟨"CauseBook$Chronicle", "earliestFrom", "(I)I"⟩ : MethodName) (⟨"CauseBook$Chronicle", "earliestFrom", "(I)I"⟩ : MethodName) ∈ cb_TB := cb_inp 81 rfl rfl
theorem cp_82 : Cond.selects "CauseBook$Chronicle" (⟨"CauseBook$Chronicle", "cutBegin", "(II)I"⟩ : MethodName) (⟨"CauseBook$Chronicle", "cutBegin", "(II)I"⟩ : MethodName) ∈ cb_TB := cb_inp 82 rfl rfl
theorem cp_83 : Cond.selects "CauseBook$Chronicle" (⟨"CauseBook$Chronicle", "explained", "(II)I"⟩ : MethodName) (⟨"CauseBook$Chronicle", "explained", "(II)I"⟩ : MethodName) ∈ cb_TB := cb_inp 83 rfl rfl
theorem cp_84 : Cond.selects "CauseBook$Chronicle" (⟨"CauseBook$Chronicle", "bestStart", "(I)I"⟩ : MethodName) (⟨"CauseBook$Chronicle", "bestStart", "(I)I"⟩ : MethodName) ∈ cb_TB := cb_inp 84 rfl rfl
theorem cp_85 : Cond.selects "CauseBook$Chronicle" (⟨"CauseBook$Chronicle", "earliestStart", "(II)I"⟩ : MethodName) (⟨"CauseBook$Chronicle", "earliestStart", "(II)I"⟩ : MethodName) ∈ cb_TB := cb_inp 85 rfl rfl
theorem cp_86 : Cond.selects "CauseBook$Chronicle" (⟨"CauseBook$Chronicle", "fewestThatExplainAll", "()I"⟩ : MethodName) (⟨"CauseBook$Chronicle", "fewestThatExplainAll", "()I"⟩ : MethodName) ∈ cb_TB := cb_inp 86 rfl rfl
theorem cp_87 : Cond.selects "CauseBook$Chronicle" (⟨"CauseBook$Chronicle", "listOffers", "()V"⟩ : MethodName) (⟨"CauseBook$Chronicle", "listOffers", "()V"⟩ : MethodName) ∈ cb_TB := cb_inp 87 rfl rfl
theorem cp_88 : Cond.selects "CauseBook$Chronicle" (⟨"CauseBook$Chronicle", "offer", "(I)V"⟩ : MethodName) (⟨"CauseBook$Chronicle", "offer", "(I)V"⟩ : MethodName) ∈ cb_TB := cb_inp 88 rfl rfl
theorem cp_89 : Cond.selects "CauseBook$Chronicle" (⟨"CauseBook$Chronicle", "byOne", "(I)Z"⟩ : MethodName) (⟨"CauseBook$Chronicle", "byOne", "(I)Z"⟩ : MethodName) ∈ cb_TB := cb_inp 89 rfl rfl
theorem cp_90 : Cond.selects "CauseBook$Chronicle" (⟨"CauseBook$Chronicle", "byTwo", "(I)Z"⟩ : MethodName) (⟨"CauseBook$Chronicle", "byTwo", "(I)Z"⟩ : MethodName) ∈ cb_TB := cb_inp 90 rfl rfl
theorem cp_91 : Cond.selects "CauseBook$Chronicle" (⟨"CauseBook$Chronicle", "byThree", "(I)Z"⟩ : MethodName) (⟨"CauseBook$Chronicle", "byThree", "(I)Z"⟩ : MethodName) ∈ cb_TB := cb_inp 91 rfl rfl
theorem cp_92 : Cond.selects "CauseBook$Codes" (⟨"CauseBook$Codes", "lastSignTime", "(I)I"⟩ : MethodName) (⟨"CauseBook$Codes", "lastSignTime", "(I)I"⟩ : MethodName) ∈ cb_TB := cb_inp 92 rfl rfl
theorem cp_93 : Cond.selects "CauseBook$Model" (⟨"CauseBook$Model", "neighbours", "(IIZ)I"⟩ : MethodName) (⟨"CauseBook$Model", "neighbours", "(IIZ)I"⟩ : MethodName) ∈ cb_TB := cb_inp 93 rfl rfl
theorem cp_94 : Cond.selects "CauseBookModel" (⟨"CauseBookModel", "refuse", "(I)I"⟩ : MethodName) (⟨"CauseBookModel", "refuse", "(I)I"⟩ : MethodName) ∈ cb_TB := cb_inp 94 rfl rfl
theorem cp_95 : Cond.selects "CauseBookModel" (⟨"CauseBookModel", "tell", "(I)I"⟩ : MethodName) (⟨"CauseBookModel", "tell", "(I)I"⟩ : MethodName) ∈ cb_TB := cb_inp 95 rfl rfl
theorem cp_96 : Cond.selects "CauseBookModel" (⟨"CauseBookModel", "number", "()V"⟩ : MethodName) (⟨"CauseBookModel", "number", "()V"⟩ : MethodName) ∈ cb_TB := cb_inp 96 rfl rfl
theorem cp_97 : Cond.selects "CauseBookModel" (⟨"CauseBookModel", "fact", "(II)I"⟩ : MethodName) (⟨"CauseBookModel", "fact", "(II)I"⟩ : MethodName) ∈ cb_TB := cb_inp 97 rfl rfl
theorem cp_98 : Cond.selects "CauseBookModel" (⟨"CauseBookModel", "factsOf", "(II)I"⟩ : MethodName) (⟨"CauseBookModel", "factsOf", "(II)I"⟩ : MethodName) ∈ cb_TB := cb_inp 98 rfl rfl
theorem cp_99 : Cond.selects "CauseBookModel" (⟨"CauseBookModel", "remember", "(I)V"⟩ : MethodName) (⟨"CauseBookModel", "remember", "(I)V"⟩ : MethodName) ∈ cb_TB := cb_inp 99 rfl rfl
theorem cp_100 : Cond.selects "CauseBookModel" (⟨"CauseBookModel", "others", "()V"⟩ : MethodName) (⟨"CauseBookModel", "others", "()V"⟩ : MethodName) ∈ cb_TB := cb_inp 100 rfl rfl
theorem cp_101 : Cond.selects "CauseBookModel" (⟨"CauseBookModel", "isObject", "(I)Z"⟩ : MethodName) (⟨"CauseBookModel", "isObject", "(I)Z"⟩ : MethodName) ∈ cb_TB := cb_inp 101 rfl rfl
theorem cp_102 : Cond.selects "CauseBookModel" (⟨"CauseBookModel", "isLink", "(III)Z"⟩ : MethodName) (⟨"CauseBookModel", "isLink", "(III)Z"⟩ : MethodName) ∈ cb_TB := cb_inp 102 rfl rfl
theorem cp_103 : Cond.selects "CauseBookModel" (⟨"CauseBookModel", "ofKind", "(I)I"⟩ : MethodName) (⟨"CauseBookModel", "ofKind", "(I)I"⟩ : MethodName) ∈ cb_TB := cb_inp 103 rfl rfl
theorem cp_104 : Cond.selects "CauseBookModel" (⟨"CauseBookModel", "areSigns", "(I)Z"⟩ : MethodName) (⟨"CauseBookModel", "areSigns", "(I)Z"⟩ : MethodName) ∈ cb_TB := cb_inp 104 rfl rfl
theorem cp_105 : Cond.selects "CauseBookModel" (⟨"CauseBookModel", "signsIn", "(IJ)I"⟩ : MethodName) (⟨"CauseBookModel", "signsIn", "(IJ)I"⟩ : MethodName) ∈ cb_TB := cb_inp 105 rfl rfl
theorem cp_106 : Cond.selects "CauseBookModel" (⟨"CauseBookModel", "areCauses", "(I)Z"⟩ : MethodName) (⟨"CauseBookModel", "areCauses", "(I)Z"⟩ : MethodName) ∈ cb_TB := cb_inp 106 rfl rfl
theorem cp_107 : Cond.selects "CauseBookModel" (⟨"CauseBookModel", "spreadOf", "(I)V"⟩ : MethodName) (⟨"CauseBookModel", "spreadOf", "(I)V"⟩ : MethodName) ∈ cb_TB := cb_inp 107 rfl rfl
theorem cp_108 : Cond.selects "CauseBookModel" (⟨"CauseBookModel", "eventBrought", "(I)I"⟩ : MethodName) (⟨"CauseBookModel", "eventBrought", "(I)I"⟩ : MethodName) ∈ cb_TB := cb_inp 108 rfl rfl
theorem cp_109 : Cond.selects "CauseBookModel" (⟨"CauseBookModel", "brought", "(II)I"⟩ : MethodName) (⟨"CauseBookModel", "brought", "(II)I"⟩ : MethodName) ∈ cb_TB := cb_inp 109 rfl rfl
theorem cp_110 : Cond.selects "CauseBookModel" (⟨"CauseBookModel", "isKind", "(II)Z"⟩ : MethodName) (⟨"CauseBookModel", "isKind", "(II)Z"⟩ : MethodName) ∈ cb_TB := cb_inp 110 rfl rfl
theorem cp_111 : Cond.selects "CauseBookModel" (⟨"CauseBookModel", "timeOf", "(II)I"⟩ : MethodName) (⟨"CauseBookModel", "timeOf", "(II)I"⟩ : MethodName) ∈ cb_TB := cb_inp 111 rfl rfl
theorem cp_112 : Cond.selects "CauseBookModel" (⟨"CauseBookModel", "rulesBy", "()I"⟩ : MethodName) (⟨"CauseBookModel", "rulesBy", "()I"⟩ : MethodName) ∈ cb_TB := cb_inp 112 rfl rfl
theorem cp_113 : Cond.selects "CauseBookModel" (⟨"CauseBookModel", "codeOf", "(I)I"⟩ : MethodName) (⟨"CauseBookModel", "codeOf", "(I)I"⟩ : MethodName) ∈ cb_TB := cb_inp 113 rfl rfl
theorem cp_114 : Cond.selects "CauseBookModel" (⟨"CauseBookModel", "signsOf", "()I"⟩ : MethodName) (⟨"CauseBookModel", "signsOf", "()I"⟩ : MethodName) ∈ cb_TB := cb_inp 114 rfl rfl
theorem cp_115 : Cond.selects "CauseBookModel" (⟨"CauseBookModel", "signTime", "(I)I"⟩ : MethodName) (⟨"CauseBookModel", "signTime", "(I)I"⟩ : MethodName) ∈ cb_TB := cb_inp 115 rfl rfl
theorem cp_116 : Cond.selects "CauseBookModel" (⟨"CauseBookModel", "isCause", "(I)Z"⟩ : MethodName) (⟨"CauseBookModel", "isCause", "(I)Z"⟩ : MethodName) ∈ cb_TB := cb_inp 116 rfl rfl
theorem cp_117 : Cond.selects "CauseBookModel" (⟨"CauseBookModel", "layCodes", "()V"⟩ : MethodName) (⟨"CauseBookModel", "layCodes", "()V"⟩ : MethodName) ∈ cb_TB := cb_inp 117 rfl rfl
theorem cp_118 : Cond.selects "CauseBookModel" (⟨"CauseBookModel", "apart", "(II)I"⟩ : MethodName) (⟨"CauseBookModel", "apart", "(II)I"⟩ : MethodName) ∈ cb_TB := cb_inp 118 rfl rfl
theorem cp_119 : Cond.selects "CauseBookModel" (⟨"CauseBookModel", "far", "(III)I"⟩ : MethodName) (⟨"CauseBookModel", "far", "(III)I"⟩ : MethodName) ∈ cb_TB := cb_inp 119 rfl rfl
theorem cp_120 : Cond.selects "CauseBookModel" (⟨"CauseBookModel", "reducedTo", "(I)I"⟩ : MethodName) (⟨"CauseBookModel", "reducedTo", "(I)I"⟩ : MethodName) ∈ cb_TB := cb_inp 120 rfl rfl
theorem cp_121 : Cond.selects "CauseBookModel" (⟨"CauseBookModel", "isEnough", "(II)Z"⟩ : MethodName) (⟨"CauseBookModel", "isEnough", "(II)Z"⟩ : MethodName) ∈ cb_TB := cb_inp 121 rfl rfl
theorem cp_122 : Cond.selects "CauseBookModel" (⟨"CauseBookModel", "layNearest", "(I)V"⟩ : MethodName) (⟨"CauseBookModel", "layNearest", "(I)V"⟩ : MethodName) ∈ cb_TB := cb_inp 122 rfl rfl
theorem cp_123 : Cond.selects "CauseBookModel" (⟨"CauseBookModel", "weighed", "(I)J"⟩ : MethodName) (⟨"CauseBookModel", "weighed", "(I)J"⟩ : MethodName) ∈ cb_TB := cb_inp 123 rfl rfl
theorem cp_124 : Cond.selects "CauseBookModel" (⟨"CauseBookModel", "likely", "(I)J"⟩ : MethodName) (⟨"CauseBookModel", "likely", "(I)J"⟩ : MethodName) ∈ cb_TB := cb_inp 124 rfl rfl
theorem cp_125 : Cond.selects "CauseBookModel" (⟨"CauseBookModel", "rankOf", "(I)I"⟩ : MethodName) (⟨"CauseBookModel", "rankOf", "(I)I"⟩ : MethodName) ∈ cb_TB := cb_inp 125 rfl rfl
theorem cp_126 : Cond.selects "CauseBookModel" (⟨"CauseBookModel", "isMinimal", "(II)Z"⟩ : MethodName) (⟨"CauseBookModel", "isMinimal", "(II)Z"⟩ : MethodName) ∈ cb_TB := cb_inp 126 rfl rfl
theorem cp_127 : Cond.selects "CauseBookModel" (⟨"CauseBookModel", "brings", "(II)Z"⟩ : MethodName) (⟨"CauseBookModel", "brings", "(II)Z"⟩ : MethodName) ∈ cb_TB := cb_inp 127 rfl rfl
theorem cp_128 : Cond.selects "CauseBookModel" (⟨"CauseBookModel", "groupOf", "(I)I"⟩ : MethodName) (⟨"CauseBookModel", "groupOf", "(I)I"⟩ : MethodName) ∈ cb_TB := cb_inp 128 rfl rfl
theorem cp_129 : Cond.selects "CauseBookModel" (⟨"CauseBookModel", "margin", "()I"⟩ : MethodName) (⟨"CauseBookModel", "margin", "()I"⟩ : MethodName) ∈ cb_TB := cb_inp 129 rfl rfl
theorem cp_130 : Cond.selects "CauseBookModel" (⟨"CauseBookModel", "emptyOnes", "()I"⟩ : MethodName) (⟨"CauseBookModel", "emptyOnes", "()I"⟩ : MethodName) ∈ cb_TB := cb_inp 130 rfl rfl
theorem cp_131 : Cond.selects "CauseBookModel" (⟨"CauseBookModel", "without", "(I)I"⟩ : MethodName) (⟨"CauseBookModel", "without", "(I)I"⟩ : MethodName) ∈ cb_TB := cb_inp 131 rfl rfl
theorem cp_132 : Cond.selects "CauseBookModel" (⟨"CauseBookModel", "aheadOf", "(I)I"⟩ : MethodName) (⟨"CauseBookModel", "aheadOf", "(I)I"⟩ : MethodName) ∈ cb_TB := cb_inp 132 rfl rfl
theorem cp_133 : Cond.selects "CauseBookModel" (⟨"CauseBookModel", "signsBy", "(I)I"⟩ : MethodName) (⟨"CauseBookModel", "signsBy", "(I)I"⟩ : MethodName) ∈ cb_TB := cb_inp 133 rfl rfl
theorem cp_134 : Cond.selects "CauseBookModel" (⟨"CauseBookModel", "earliestFrom", "(I)I"⟩ : MethodName) (⟨"CauseBookModel", "earliestFrom", "(I)I"⟩ : MethodName) ∈ cb_TB := cb_inp 134 rfl rfl
theorem cp_135 : Cond.selects "CauseBookModel" (⟨"CauseBookModel", "explained", "(I)I"⟩ : MethodName) (⟨"CauseBookModel", "explained", "(I)I"⟩ : MethodName) ∈ cb_TB := cb_inp 135 rfl rfl
theorem cp_136 : Cond.selects "CauseBookModel" (⟨"CauseBookModel", "laySets", "()V"⟩ : MethodName) (⟨"CauseBookModel", "laySets", "()V"⟩ : MethodName) ∈ cb_TB := cb_inp 136 rfl rfl
theorem cp_137 : Cond.selects "CauseBookModel" (⟨"CauseBookModel", "addSet", "(I)V"⟩ : MethodName) (⟨"CauseBookModel", "addSet", "(I)V"⟩ : MethodName) ∈ cb_TB := cb_inp 137 rfl rfl
theorem cp_138 : Cond.selects "CauseBookModel" (⟨"CauseBookModel", "areCovered", "(II)Z"⟩ : MethodName) (⟨"CauseBookModel", "areCovered", "(II)Z"⟩ : MethodName) ∈ cb_TB := cb_inp 138 rfl rfl
theorem cp_139 : Cond.selects "CauseBookModel" (⟨"CauseBookModel", "coveredBehind", "(II)Z"⟩ : MethodName) (⟨"CauseBookModel", "coveredBehind", "(II)Z"⟩ : MethodName) ∈ cb_TB := cb_inp 139 rfl rfl
theorem cp_140 : Cond.selects "CauseBookModel" (⟨"CauseBookModel", "coveredLast", "(II)Z"⟩ : MethodName) (⟨"CauseBookModel", "coveredLast", "(II)Z"⟩ : MethodName) ∈ cb_TB := cb_inp 140 rfl rfl
