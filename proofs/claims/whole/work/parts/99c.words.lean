/-! the tables' words of the law and the constructors (printed by wip/gen/g99c.py) -/
theorem cw_0 : (Jvm.Cond.initialized "CauseBookLaw") ∈ cb_TB := cb_i1 0 rfl rfl
theorem cw_17 : (Jvm.Cond.classLink "CauseBookLaw" (7 : Nat) "CauseBook") ∈ cb_TB := cb_i1 17 rfl rfl
theorem cw_18 : (Jvm.Cond.instantiable "CauseBook" (14 : Nat)) ∈ cb_TB := cb_i1 18 rfl rfl
theorem cw_19 : (Jvm.Cond.methodLink "CauseBookLaw" (9 : Nat) ({ cls := "CauseBook", name := "<init>", desc := "()V" } : Jvm.MethodName)) ∈ cb_TB := cb_i1 19 rfl rfl
theorem cw_20 : (Jvm.Cond.instanceMethod ({ cls := "CauseBook", name := "<init>", desc := "()V" } : Jvm.MethodName)) ∈ cb_TB := cb_i1 20 rfl rfl
theorem cw_21 : (Jvm.Cond.code ({ cls := "CauseBook", name := "<init>", desc := "()V" } : Jvm.MethodName) prog_1_method_1_code (2 : Nat) (Option.none : Option Jvm.ClassFile.FieldType)) ∈ cb_TB := cb_i1 21 rfl rfl
theorem cw_22 : (Jvm.Cond.methodLink "CauseBook" (3 : Nat) ({ cls := "java/lang/Object", name := "<init>", desc := "()V" } : Jvm.MethodName)) ∈ cb_TB := cb_i1 22 rfl rfl
theorem cw_23 : (Jvm.Cond.instanceMethod ({ cls := "java/lang/Object", name := "<init>", desc := "()V" } : Jvm.MethodName)) ∈ cb_TB := cb_i1 23 rfl rfl
theorem cw_24 : (Jvm.Cond.code ({ cls := "java/lang/Object", name := "<init>", desc := "()V" } : Jvm.MethodName) object_method_1_code (1 : Nat) (Option.none : Option Jvm.ClassFile.FieldType)) ∈ cb_TB := cb_i1 24 rfl rfl
theorem cw_25 : (Jvm.Cond.classLink "CauseBook" (9 : Nat) "CauseBook$Model") ∈ cb_TB := cb_i1 25 rfl rfl
theorem cw_26 : (Jvm.Cond.instantiable "CauseBook$Model" (13 : Nat)) ∈ cb_TB := cb_i1 26 rfl rfl
theorem cw_27 : (Jvm.Cond.methodLinkNest "CauseBook" (11 : Nat) ({ cls := "CauseBook$Model", name := "<init>", desc := "()V" } : Jvm.MethodName) "CauseBook") ∈ cb_TB := cb_i1 27 rfl rfl
theorem cw_28 : (Jvm.Cond.instanceMethod ({ cls := "CauseBook$Model", name := "<init>", desc := "()V" } : Jvm.MethodName)) ∈ cb_TB := cb_i1 28 rfl rfl
theorem cw_29 : (Jvm.Cond.code ({ cls := "CauseBook$Model", name := "<init>", desc := "()V" } : Jvm.MethodName) prog_7_method_1_code (1 : Nat) (Option.none : Option Jvm.ClassFile.FieldType)) ∈ cb_TB := cb_i1 29 rfl rfl
theorem cw_30 : (Jvm.Cond.methodLink "CauseBook$Model" (3 : Nat) ({ cls := "java/lang/Object", name := "<init>", desc := "()V" } : Jvm.MethodName)) ∈ cb_TB := cb_i1 30 rfl rfl
theorem cw_94 : (Jvm.Cond.arrayClass Jvm.ClassFile.FieldType.int) ∈ cb_TB := cb_i1 94 rfl rfl
theorem cw_95 : (Jvm.Cond.classLink "CauseBook" (16 : Nat) "CauseBook$History") ∈ cb_TB := cb_i1 95 rfl rfl
theorem cw_96 : (Jvm.Cond.instantiable "CauseBook$History" (4 : Nat)) ∈ cb_TB := cb_i1 96 rfl rfl
theorem cw_97 : (Jvm.Cond.methodLinkNest "CauseBook" (18 : Nat) ({ cls := "CauseBook$History", name := "<init>", desc := "()V" } : Jvm.MethodName) "CauseBook") ∈ cb_TB := cb_i1 97 rfl rfl
theorem cw_98 : (Jvm.Cond.instanceMethod ({ cls := "CauseBook$History", name := "<init>", desc := "()V" } : Jvm.MethodName)) ∈ cb_TB := cb_i1 98 rfl rfl
theorem cw_99 : (Jvm.Cond.code ({ cls := "CauseBook$History", name := "<init>", desc := "()V" } : Jvm.MethodName) prog_6_method_1_code (2 : Nat) (Option.none : Option Jvm.ClassFile.FieldType)) ∈ cb_TB := cb_i1 99 rfl rfl
theorem cw_100 : (Jvm.Cond.methodLink "CauseBook$History" (3 : Nat) ({ cls := "java/lang/Object", name := "<init>", desc := "()V" } : Jvm.MethodName)) ∈ cb_TB := cb_i1 100 rfl rfl
theorem cw_101 : (Jvm.Cond.classLink "CauseBook$History" (9 : Nat) "CauseBook$Model") ∈ cb_TB := cb_i1 101 rfl rfl
theorem cw_103 : (Jvm.Cond.methodLinkNest "CauseBook$History" (21 : Nat) ({ cls := "CauseBook$Model", name := "<init>", desc := "()V" } : Jvm.MethodName) "CauseBook") ∈ cb_TB := cb_i1 103 rfl rfl
theorem cw_118 : (Jvm.Cond.classLink "CauseBook" (31 : Nat) "CauseBook$Refusals") ∈ cb_TB := cb_i1 118 rfl rfl
theorem cw_119 : (Jvm.Cond.instantiable "CauseBook$Refusals" (2 : Nat)) ∈ cb_TB := cb_i1 119 rfl rfl
theorem cw_120 : (Jvm.Cond.methodLinkNest "CauseBook" (33 : Nat) ({ cls := "CauseBook$Refusals", name := "<init>", desc := "()V" } : Jvm.MethodName) "CauseBook") ∈ cb_TB := cb_i1 120 rfl rfl
theorem cw_121 : (Jvm.Cond.instanceMethod ({ cls := "CauseBook$Refusals", name := "<init>", desc := "()V" } : Jvm.MethodName)) ∈ cb_TB := cb_i1 121 rfl rfl
theorem cw_122 : (Jvm.Cond.code ({ cls := "CauseBook$Refusals", name := "<init>", desc := "()V" } : Jvm.MethodName) prog_9_method_1_code (1 : Nat) (Option.none : Option Jvm.ClassFile.FieldType)) ∈ cb_TB := cb_i1 122 rfl rfl
theorem cw_123 : (Jvm.Cond.methodLink "CauseBook$Refusals" (3 : Nat) ({ cls := "java/lang/Object", name := "<init>", desc := "()V" } : Jvm.MethodName)) ∈ cb_TB := cb_i1 123 rfl rfl
theorem cw_133 : (Jvm.Cond.arrayClass Jvm.ClassFile.FieldType.boolean) ∈ cb_TB := cb_i1 133 rfl rfl
theorem cw_134 : (Jvm.Cond.classLink "CauseBook" (42 : Nat) "CauseBook$Roll") ∈ cb_TB := cb_i1 134 rfl rfl
theorem cw_135 : (Jvm.Cond.instantiable "CauseBook$Roll" (4 : Nat)) ∈ cb_TB := cb_i1 135 rfl rfl
theorem cw_136 : (Jvm.Cond.methodLinkNest "CauseBook" (44 : Nat) ({ cls := "CauseBook$Roll", name := "<init>", desc := "()V" } : Jvm.MethodName) "CauseBook") ∈ cb_TB := cb_i1 136 rfl rfl
theorem cw_137 : (Jvm.Cond.instanceMethod ({ cls := "CauseBook$Roll", name := "<init>", desc := "()V" } : Jvm.MethodName)) ∈ cb_TB := cb_i1 137 rfl rfl
theorem cw_138 : (Jvm.Cond.code ({ cls := "CauseBook$Roll", name := "<init>", desc := "()V" } : Jvm.MethodName) prog_10_method_1_code (1 : Nat) (Option.none : Option Jvm.ClassFile.FieldType)) ∈ cb_TB := cb_i1 138 rfl rfl
theorem cw_139 : (Jvm.Cond.methodLink "CauseBook$Roll" (3 : Nat) ({ cls := "java/lang/Object", name := "<init>", desc := "()V" } : Jvm.MethodName)) ∈ cb_TB := cb_i1 139 rfl rfl
theorem cw_168 : (Jvm.Cond.classLink "CauseBook" (52 : Nat) "CauseBook$Spreader") ∈ cb_TB := cb_i1 168 rfl rfl
theorem cw_169 : (Jvm.Cond.instantiable "CauseBook$Spreader" (9 : Nat)) ∈ cb_TB := cb_i1 169 rfl rfl
theorem cw_170 : (Jvm.Cond.methodLinkNest "CauseBook" (54 : Nat) ({ cls := "CauseBook$Spreader", name := "<init>", desc := "(LCauseBook$Model;LCauseBook$Roll;)V" } : Jvm.MethodName) "CauseBook") ∈ cb_TB := cb_i1 170 rfl rfl
theorem cw_171 : (Jvm.Cond.instanceMethod ({ cls := "CauseBook$Spreader", name := "<init>", desc := "(LCauseBook$Model;LCauseBook$Roll;)V" } : Jvm.MethodName)) ∈ cb_TB := cb_i1 171 rfl rfl
theorem cw_172 : (Jvm.Cond.code ({ cls := "CauseBook$Spreader", name := "<init>", desc := "(LCauseBook$Model;LCauseBook$Roll;)V" } : Jvm.MethodName) prog_11_method_1_code (3 : Nat) (Option.none : Option Jvm.ClassFile.FieldType)) ∈ cb_TB := cb_i1 172 rfl rfl
theorem cw_173 : (Jvm.Cond.methodLink "CauseBook$Spreader" (3 : Nat) ({ cls := "java/lang/Object", name := "<init>", desc := "()V" } : Jvm.MethodName)) ∈ cb_TB := cb_i1 173 rfl rfl
theorem cw_202 : (Jvm.Cond.classLink "CauseBook" (61 : Nat) "CauseBook$Codes") ∈ cb_TB := cb_i1 202 rfl rfl
theorem cw_203 : (Jvm.Cond.instantiable "CauseBook$Codes" (15 : Nat)) ∈ cb_TB := cb_i1 203 rfl rfl
theorem cw_204 : (Jvm.Cond.methodLinkNest "CauseBook" (63 : Nat) ({ cls := "CauseBook$Codes", name := "<init>", desc := "(LCauseBook$Model;LCauseBook$Spreader;LCauseBook$Roll;LCauseBook$Roll;)V" } : Jvm.MethodName) "CauseBook") ∈ cb_TB := cb_i1 204 rfl rfl
theorem cw_205 : (Jvm.Cond.instanceMethod ({ cls := "CauseBook$Codes", name := "<init>", desc := "(LCauseBook$Model;LCauseBook$Spreader;LCauseBook$Roll;LCauseBook$Roll;)V" } : Jvm.MethodName)) ∈ cb_TB := cb_i1 205 rfl rfl
theorem cw_206 : (Jvm.Cond.code ({ cls := "CauseBook$Codes", name := "<init>", desc := "(LCauseBook$Model;LCauseBook$Spreader;LCauseBook$Roll;LCauseBook$Roll;)V" } : Jvm.MethodName) prog_4_method_1_code (5 : Nat) (Option.none : Option Jvm.ClassFile.FieldType)) ∈ cb_TB := cb_i1 206 rfl rfl
theorem cw_207 : (Jvm.Cond.methodLink "CauseBook$Codes" (3 : Nat) ({ cls := "java/lang/Object", name := "<init>", desc := "()V" } : Jvm.MethodName)) ∈ cb_TB := cb_i1 207 rfl rfl
theorem cw_271 : (Jvm.Cond.classLink "CauseBook" (70 : Nat) "CauseBook$Decoder") ∈ cb_TB := cb_i2 31 rfl rfl
theorem cw_272 : (Jvm.Cond.instantiable "CauseBook$Decoder" (4 : Nat)) ∈ cb_TB := cb_i2 32 rfl rfl
theorem cw_273 : (Jvm.Cond.methodLinkNest "CauseBook" (72 : Nat) ({ cls := "CauseBook$Decoder", name := "<init>", desc := "(LCauseBook$Model;LCauseBook$Codes;)V" } : Jvm.MethodName) "CauseBook") ∈ cb_TB := cb_i2 33 rfl rfl
theorem cw_274 : (Jvm.Cond.instanceMethod ({ cls := "CauseBook$Decoder", name := "<init>", desc := "(LCauseBook$Model;LCauseBook$Codes;)V" } : Jvm.MethodName)) ∈ cb_TB := cb_i2 34 rfl rfl
theorem cw_275 : (Jvm.Cond.code ({ cls := "CauseBook$Decoder", name := "<init>", desc := "(LCauseBook$Model;LCauseBook$Codes;)V" } : Jvm.MethodName) prog_5_method_1_code (3 : Nat) (Option.none : Option Jvm.ClassFile.FieldType)) ∈ cb_TB := cb_i2 35 rfl rfl
theorem cw_276 : (Jvm.Cond.methodLink "CauseBook$Decoder" (3 : Nat) ({ cls := "java/lang/Object", name := "<init>", desc := "()V" } : Jvm.MethodName)) ∈ cb_TB := cb_i2 36 rfl rfl
theorem cw_292 : (Jvm.Cond.classLink "CauseBook" (79 : Nat) "CauseBook$Chances") ∈ cb_TB := cb_i2 52 rfl rfl
theorem cw_293 : (Jvm.Cond.instantiable "CauseBook$Chances" (6 : Nat)) ∈ cb_TB := cb_i2 53 rfl rfl
theorem cw_294 : (Jvm.Cond.methodLinkNest "CauseBook" (81 : Nat) ({ cls := "CauseBook$Chances", name := "<init>", desc := "(LCauseBook$Model;LCauseBook$Codes;[I)V" } : Jvm.MethodName) "CauseBook") ∈ cb_TB := cb_i2 54 rfl rfl
theorem cw_295 : (Jvm.Cond.instanceMethod ({ cls := "CauseBook$Chances", name := "<init>", desc := "(LCauseBook$Model;LCauseBook$Codes;[I)V" } : Jvm.MethodName)) ∈ cb_TB := cb_i2 55 rfl rfl
theorem cw_296 : (Jvm.Cond.code ({ cls := "CauseBook$Chances", name := "<init>", desc := "(LCauseBook$Model;LCauseBook$Codes;[I)V" } : Jvm.MethodName) prog_2_method_1_code (4 : Nat) (Option.none : Option Jvm.ClassFile.FieldType)) ∈ cb_TB := cb_i2 56 rfl rfl
theorem cw_297 : (Jvm.Cond.methodLink "CauseBook$Chances" (3 : Nat) ({ cls := "java/lang/Object", name := "<init>", desc := "()V" } : Jvm.MethodName)) ∈ cb_TB := cb_i2 57 rfl rfl
theorem cw_320 : (Jvm.Cond.arrayClass Jvm.ClassFile.FieldType.long) ∈ cb_TB := cb_i2 80 rfl rfl
theorem cw_321 : (Jvm.Cond.classLink "CauseBook" (88 : Nat) "CauseBook$Reducer") ∈ cb_TB := cb_i2 81 rfl rfl
theorem cw_322 : (Jvm.Cond.instantiable "CauseBook$Reducer" (5 : Nat)) ∈ cb_TB := cb_i2 82 rfl rfl
theorem cw_323 : (Jvm.Cond.methodLinkNest "CauseBook" (90 : Nat) ({ cls := "CauseBook$Reducer", name := "<init>", desc := "(LCauseBook$Codes;)V" } : Jvm.MethodName) "CauseBook") ∈ cb_TB := cb_i2 83 rfl rfl
theorem cw_324 : (Jvm.Cond.instanceMethod ({ cls := "CauseBook$Reducer", name := "<init>", desc := "(LCauseBook$Codes;)V" } : Jvm.MethodName)) ∈ cb_TB := cb_i2 84 rfl rfl
theorem cw_325 : (Jvm.Cond.code ({ cls := "CauseBook$Reducer", name := "<init>", desc := "(LCauseBook$Codes;)V" } : Jvm.MethodName) prog_8_method_1_code (2 : Nat) (Option.none : Option Jvm.ClassFile.FieldType)) ∈ cb_TB := cb_i2 85 rfl rfl
theorem cw_326 : (Jvm.Cond.methodLink "CauseBook$Reducer" (3 : Nat) ({ cls := "java/lang/Object", name := "<init>", desc := "()V" } : Jvm.MethodName)) ∈ cb_TB := cb_i2 86 rfl rfl
theorem cw_343 : (Jvm.Cond.classLink "CauseBook" (97 : Nat) "CauseBook$Chronicle") ∈ cb_TB := cb_i2 103 rfl rfl
theorem cw_344 : (Jvm.Cond.instantiable "CauseBook$Chronicle" (5 : Nat)) ∈ cb_TB := cb_i2 104 rfl rfl
theorem cw_345 : (Jvm.Cond.methodLinkNest "CauseBook" (99 : Nat) ({ cls := "CauseBook$Chronicle", name := "<init>", desc := "(LCauseBook$Model;LCauseBook$Codes;[I)V" } : Jvm.MethodName) "CauseBook") ∈ cb_TB := cb_i2 105 rfl rfl
theorem cw_346 : (Jvm.Cond.instanceMethod ({ cls := "CauseBook$Chronicle", name := "<init>", desc := "(LCauseBook$Model;LCauseBook$Codes;[I)V" } : Jvm.MethodName)) ∈ cb_TB := cb_i2 106 rfl rfl
theorem cw_347 : (Jvm.Cond.code ({ cls := "CauseBook$Chronicle", name := "<init>", desc := "(LCauseBook$Model;LCauseBook$Codes;[I)V" } : Jvm.MethodName) prog_3_method_1_code (4 : Nat) (Option.none : Option Jvm.ClassFile.FieldType)) ∈ cb_TB := cb_i2 107 rfl rfl
theorem cw_348 : (Jvm.Cond.methodLink "CauseBook$Chronicle" (3 : Nat) ({ cls := "java/lang/Object", name := "<init>", desc := "()V" } : Jvm.MethodName)) ∈ cb_TB := cb_i2 108 rfl rfl
theorem cw_365 : (Jvm.Cond.fieldLink "CauseBook" (104 : Nat) "CauseBook" "TERMS_AT_FIRST" "[I") ∈ cb_TB := cb_i2 125 rfl rfl
theorem cw_367 : (Jvm.Cond.methodLink "CauseBook" (107 : Nat) ({ cls := "java/lang/System", name := "arraycopy", desc := "(Ljava/lang/Object;ILjava/lang/Object;II)V" } : Jvm.MethodName)) ∈ cb_TB := cb_i2 127 rfl rfl
theorem cw_413 : (Jvm.Cond.methodLink "CauseBookLaw" (13 : Nat) ({ cls := "CauseBook", name := "terms", desc := "(II)I" } : Jvm.MethodName)) ∈ cb_TB := cb_i2 173 rfl rfl
theorem cw_433 : (Jvm.Cond.methodLink "CauseBookLaw" (18 : Nat) ({ cls := "CauseBook", name := "object", desc := "(I)I" } : Jvm.MethodName)) ∈ cb_TB := cb_i2 193 rfl rfl
theorem cw_477 : (Jvm.Cond.methodLink "CauseBookLaw" (23 : Nat) ({ cls := "CauseBook", name := "link", desc := "(III)I" } : Jvm.MethodName)) ∈ cb_TB := cb_i2 237 rfl rfl
theorem cw_493 : (Jvm.Cond.methodLink "CauseBookLaw" (28 : Nat) ({ cls := "CauseBook", name := "cut", desc := "(I)I" } : Jvm.MethodName)) ∈ cb_TB := cb_i3 13 rfl rfl
theorem cw_501 : (Jvm.Cond.methodLink "CauseBookLaw" (32 : Nat) ({ cls := "CauseBook", name := "rule", desc := "(IIIII)I" } : Jvm.MethodName)) ∈ cb_TB := cb_i3 21 rfl rfl
theorem cw_509 : (Jvm.Cond.methodLink "CauseBookLaw" (37 : Nat) ({ cls := "CauseBook", name := "drop", desc := "(I)I" } : Jvm.MethodName)) ∈ cb_TB := cb_i3 29 rfl rfl
theorem cw_517 : (Jvm.Cond.methodLink "CauseBookLaw" (41 : Nat) ({ cls := "CauseBook", name := "cause", desc := "(III)I" } : Jvm.MethodName)) ∈ cb_TB := cb_i3 37 rfl rfl
theorem cw_525 : (Jvm.Cond.methodLink "CauseBookLaw" (45 : Nat) ({ cls := "CauseBook", name := "sign", desc := "(II)I" } : Jvm.MethodName)) ∈ cb_TB := cb_i3 45 rfl rfl
theorem cw_529 : (Jvm.Cond.methodLink "CauseBookLaw" (49 : Nat) ({ cls := "CauseBook", name := "reduce", desc := "(I)I" } : Jvm.MethodName)) ∈ cb_TB := cb_i3 49 rfl rfl
theorem cw_631 : (Jvm.Cond.methodLink "CauseBookLaw" (53 : Nat) ({ cls := "CauseBook", name := "book", desc := "(I)I" } : Jvm.MethodName)) ∈ cb_TB := cb_i3 151 rfl rfl
theorem cw_635 : (Jvm.Cond.methodLink "CauseBookLaw" (57 : Nat) ({ cls := "CauseBook", name := "see", desc := "(I)I" } : Jvm.MethodName)) ∈ cb_TB := cb_i3 155 rfl rfl
theorem cw_639 : (Jvm.Cond.methodLink "CauseBookLaw" (61 : Nat) ({ cls := "CauseBook", name := "note", desc := "(II)I" } : Jvm.MethodName)) ∈ cb_TB := cb_i3 159 rfl rfl
theorem cw_647 : (Jvm.Cond.methodLink "CauseBookLaw" (65 : Nat) ({ cls := "CauseBook", name := "clear", desc := "()I" } : Jvm.MethodName)) ∈ cb_TB := cb_i3 167 rfl rfl
theorem cw_651 : (Jvm.Cond.methodLink "CauseBookLaw" (70 : Nat) ({ cls := "CauseBook", name := "window", desc := "(II)I" } : Jvm.MethodName)) ∈ cb_TB := cb_i3 171 rfl rfl
theorem cw_662 : (Jvm.Cond.methodLink "CauseBookLaw" (74 : Nat) ({ cls := "CauseBook", name := "undo", desc := "()I" } : Jvm.MethodName)) ∈ cb_TB := cb_i3 182 rfl rfl
theorem cw_670 : (Jvm.Cond.methodLink "CauseBookLaw" (78 : Nat) ({ cls := "CauseBook", name := "image", desc := "(I)I" } : Jvm.MethodName)) ∈ cb_TB := cb_i3 190 rfl rfl
theorem cw_675 : (Jvm.Cond.methodLink "CauseBookLaw" (82 : Nat) ({ cls := "CauseBook", name := "back", desc := "(I)I" } : Jvm.MethodName)) ∈ cb_TB := cb_i3 195 rfl rfl
theorem cw_679 : (Jvm.Cond.methodLink "CauseBookLaw" (86 : Nat) ({ cls := "CauseBook", name := "time", desc := "(III)I" } : Jvm.MethodName)) ∈ cb_TB := cb_i3 199 rfl rfl
theorem cw_691 : (Jvm.Cond.methodLink "CauseBookLaw" (90 : Nat) ({ cls := "CauseBook", name := "spread", desc := "(II)I" } : Jvm.MethodName)) ∈ cb_TB := cb_i3 211 rfl rfl
theorem cw_711 : (Jvm.Cond.methodLink "CauseBookLaw" (94 : Nat) ({ cls := "CauseBook", name := "code", desc := "(I)I" } : Jvm.MethodName)) ∈ cb_TB := cb_i3 231 rfl rfl
theorem cw_716 : (Jvm.Cond.methodLink "CauseBookLaw" (98 : Nat) ({ cls := "CauseBook", name := "distance", desc := "(III)I" } : Jvm.MethodName)) ∈ cb_TB := cb_i3 236 rfl rfl
theorem cw_724 : (Jvm.Cond.methodLink "CauseBookLaw" (102 : Nat) ({ cls := "CauseBook", name := "nearest", desc := "(I)I" } : Jvm.MethodName)) ∈ cb_TB := cb_i4 4 rfl rfl
theorem cw_748 : (Jvm.Cond.methodLink "CauseBookLaw" (106 : Nat) ({ cls := "CauseBook", name := "joint", desc := "(II)I" } : Jvm.MethodName)) ∈ cb_TB := cb_i4 28 rfl rfl
theorem cw_778 : (Jvm.Cond.methodLink "CauseBookLaw" (110 : Nat) ({ cls := "CauseBook", name := "odds", desc := "(II)J" } : Jvm.MethodName)) ∈ cb_TB := cb_i4 58 rfl rfl
theorem cw_799 : (Jvm.Cond.methodLink "CauseBookLaw" (115 : Nat) ({ cls := "CauseBook", name := "likeliest", desc := "(I)I" } : Jvm.MethodName)) ∈ cb_TB := cb_i4 79 rfl rfl
theorem cw_815 : (Jvm.Cond.methodLink "CauseBookLaw" (119 : Nat) ({ cls := "CauseBook", name := "ranked", desc := "(I)I" } : Jvm.MethodName)) ∈ cb_TB := cb_i4 95 rfl rfl
theorem cw_819 : (Jvm.Cond.methodLink "CauseBookLaw" (123 : Nat) ({ cls := "CauseBook", name := "hold", desc := "(I)I" } : Jvm.MethodName)) ∈ cb_TB := cb_i4 99 rfl rfl
theorem cw_828 : (Jvm.Cond.methodLink "CauseBookLaw" (127 : Nat) ({ cls := "CauseBook", name := "minimal", desc := "(II)I" } : Jvm.MethodName)) ∈ cb_TB := cb_i4 108 rfl rfl
theorem cw_840 : (Jvm.Cond.methodLink "CauseBookLaw" (131 : Nat) ({ cls := "CauseBook", name := "weakest", desc := "(I)I" } : Jvm.MethodName)) ∈ cb_TB := cb_i4 120 rfl rfl
theorem cw_852 : (Jvm.Cond.methodLink "CauseBookLaw" (135 : Nat) ({ cls := "CauseBook", name := "ordered", desc := "(II)I" } : Jvm.MethodName)) ∈ cb_TB := cb_i4 132 rfl rfl
theorem cw_868 : (Jvm.Cond.methodLink "CauseBookLaw" (139 : Nat) ({ cls := "CauseBook", name := "sure", desc := "(I)I" } : Jvm.MethodName)) ∈ cb_TB := cb_i4 148 rfl rfl
theorem cw_889 : (Jvm.Cond.methodLink "CauseBookLaw" (143 : Nat) ({ cls := "CauseBook", name := "busiest", desc := "(II)I" } : Jvm.MethodName)) ∈ cb_TB := cb_i4 169 rfl rfl
theorem cw_900 : (Jvm.Cond.methodLink "CauseBookLaw" (147 : Nat) ({ cls := "CauseBook", name := "groups", desc := "(I)I" } : Jvm.MethodName)) ∈ cb_TB := cb_i4 180 rfl rfl
theorem cw_922 : (Jvm.Cond.methodLink "CauseBookLaw" (151 : Nat) ({ cls := "CauseBook", name := "group", desc := "(I)I" } : Jvm.MethodName)) ∈ cb_TB := cb_i4 202 rfl rfl
theorem cw_927 : (Jvm.Cond.methodLink "CauseBookLaw" (155 : Nat) ({ cls := "CauseBook", name := "reduced", desc := "(I)I" } : Jvm.MethodName)) ∈ cb_TB := cb_i4 207 rfl rfl
theorem cw_931 : (Jvm.Cond.methodLink "CauseBookLaw" (159 : Nat) ({ cls := "CauseBook", name := "ask", desc := "(I)I" } : Jvm.MethodName)) ∈ cb_TB := cb_i4 211 rfl rfl
theorem cw_944 : (Jvm.Cond.methodLink "CauseBookLaw" (163 : Nat) ({ cls := "CauseBook", name := "cuts", desc := "(III)I" } : Jvm.MethodName)) ∈ cb_TB := cb_i4 224 rfl rfl
theorem cw_962 : (Jvm.Cond.methodLink "CauseBookLaw" (167 : Nat) ({ cls := "CauseBook", name := "explains", desc := "(II)I" } : Jvm.MethodName)) ∈ cb_TB := cb_i5 2 rfl rfl
theorem cw_974 : (Jvm.Cond.methodLink "CauseBookLaw" (171 : Nat) ({ cls := "CauseBook", name := "best", desc := "(II)I" } : Jvm.MethodName)) ∈ cb_TB := cb_i5 14 rfl rfl
theorem cw_987 : (Jvm.Cond.methodLink "CauseBookLaw" (175 : Nat) ({ cls := "CauseBook", name := "cover", desc := "()I" } : Jvm.MethodName)) ∈ cb_TB := cb_i5 27 rfl rfl
theorem cw_1015 : (Jvm.Cond.methodLink "CauseBookLaw" (179 : Nat) ({ cls := "CauseBook", name := "ofCause", desc := "(II)I" } : Jvm.MethodName)) ∈ cb_TB := cb_i5 55 rfl rfl
theorem cw_1024 : (Jvm.Cond.methodLink "CauseBookLaw" (183 : Nat) ({ cls := "CauseBook", name := "ofSign", desc := "(II)I" } : Jvm.MethodName)) ∈ cb_TB := cb_i5 64 rfl rfl
theorem cw_1029 : (Jvm.Cond.methodLink "CauseBookLaw" (187 : Nat) ({ cls := "CauseBook", name := "ofObject", desc := "(II)I" } : Jvm.MethodName)) ∈ cb_TB := cb_i5 69 rfl rfl
theorem cw_1037 : (Jvm.Cond.methodLink "CauseBookLaw" (191 : Nat) ({ cls := "CauseBook", name := "ofRule", desc := "(II)I" } : Jvm.MethodName)) ∈ cb_TB := cb_i5 77 rfl rfl
theorem cw_1042 : (Jvm.Cond.methodLink "CauseBookLaw" (195 : Nat) ({ cls := "CauseBook", name := "count", desc := "(I)I" } : Jvm.MethodName)) ∈ cb_TB := cb_i5 82 rfl rfl
theorem cw_1046 : (Jvm.Cond.methodLink "CauseBookLaw" (199 : Nat) ({ cls := "CauseBook", name := "status", desc := "()I" } : Jvm.MethodName)) ∈ cb_TB := cb_i5 86 rfl rfl
theorem cw_1050 : (Jvm.Cond.classLink "CauseBookLaw" (10 : Nat) "CauseBookModel") ∈ cb_TB := cb_i5 90 rfl rfl
theorem cw_1051 : (Jvm.Cond.instantiable "CauseBookModel" (25 : Nat)) ∈ cb_TB := cb_i5 91 rfl rfl
theorem cw_1052 : (Jvm.Cond.methodLink "CauseBookLaw" (12 : Nat) ({ cls := "CauseBookModel", name := "<init>", desc := "()V" } : Jvm.MethodName)) ∈ cb_TB := cb_i5 92 rfl rfl
theorem cw_1053 : (Jvm.Cond.instanceMethod ({ cls := "CauseBookModel", name := "<init>", desc := "()V" } : Jvm.MethodName)) ∈ cb_TB := cb_i5 93 rfl rfl
theorem cw_1054 : (Jvm.Cond.code ({ cls := "CauseBookModel", name := "<init>", desc := "()V" } : Jvm.MethodName) prog_13_method_1_code (1 : Nat) (Option.none : Option Jvm.ClassFile.FieldType)) ∈ cb_TB := cb_i5 94 rfl rfl
theorem cw_1055 : (Jvm.Cond.methodLink "CauseBookModel" (1 : Nat) ({ cls := "java/lang/Object", name := "<init>", desc := "()V" } : Jvm.MethodName)) ∈ cb_TB := cb_i5 95 rfl rfl
theorem cw_1132 : (Jvm.Cond.methodLink "CauseBookLaw" (77 : Nat) ({ cls := "CauseBookModel", name := "undo", desc := "()I" } : Jvm.MethodName)) ∈ cb_TB := cb_i5 172 rfl rfl
theorem cw_1147 : (Jvm.Cond.methodLink "CauseBookLaw" (81 : Nat) ({ cls := "CauseBookModel", name := "image", desc := "(I)I" } : Jvm.MethodName)) ∈ cb_TB := cb_i5 187 rfl rfl
theorem cw_1154 : (Jvm.Cond.methodLink "CauseBookLaw" (85 : Nat) ({ cls := "CauseBookModel", name := "back", desc := "(I)I" } : Jvm.MethodName)) ∈ cb_TB := cb_i5 194 rfl rfl
theorem cw_1158 : (Jvm.Cond.methodLink "CauseBookLaw" (17 : Nat) ({ cls := "CauseBookModel", name := "terms", desc := "(II)I" } : Jvm.MethodName)) ∈ cb_TB := cb_i5 198 rfl rfl
theorem cw_1166 : (Jvm.Cond.methodLink "CauseBookLaw" (22 : Nat) ({ cls := "CauseBookModel", name := "object", desc := "(I)I" } : Jvm.MethodName)) ∈ cb_TB := cb_i5 206 rfl rfl
theorem cw_1190 : (Jvm.Cond.methodLink "CauseBookLaw" (27 : Nat) ({ cls := "CauseBookModel", name := "link", desc := "(III)I" } : Jvm.MethodName)) ∈ cb_TB := cb_i5 230 rfl rfl
theorem cw_1203 : (Jvm.Cond.methodLink "CauseBookLaw" (31 : Nat) ({ cls := "CauseBookModel", name := "cut", desc := "(I)I" } : Jvm.MethodName)) ∈ cb_TB := cb_i6 3 rfl rfl
theorem cw_1207 : (Jvm.Cond.methodLink "CauseBookLaw" (36 : Nat) ({ cls := "CauseBookModel", name := "rule", desc := "(IIIII)I" } : Jvm.MethodName)) ∈ cb_TB := cb_i6 7 rfl rfl
theorem cw_1213 : (Jvm.Cond.methodLink "CauseBookLaw" (40 : Nat) ({ cls := "CauseBookModel", name := "drop", desc := "(I)I" } : Jvm.MethodName)) ∈ cb_TB := cb_i6 13 rfl rfl
theorem cw_1217 : (Jvm.Cond.methodLink "CauseBookLaw" (44 : Nat) ({ cls := "CauseBookModel", name := "cause", desc := "(III)I" } : Jvm.MethodName)) ∈ cb_TB := cb_i6 17 rfl rfl
theorem cw_1229 : (Jvm.Cond.methodLink "CauseBookLaw" (48 : Nat) ({ cls := "CauseBookModel", name := "sign", desc := "(II)I" } : Jvm.MethodName)) ∈ cb_TB := cb_i6 29 rfl rfl
theorem cw_1233 : (Jvm.Cond.methodLink "CauseBookLaw" (56 : Nat) ({ cls := "CauseBookModel", name := "book", desc := "(I)I" } : Jvm.MethodName)) ∈ cb_TB := cb_i6 33 rfl rfl
theorem cw_1244 : (Jvm.Cond.methodLink "CauseBookLaw" (60 : Nat) ({ cls := "CauseBookModel", name := "see", desc := "(I)I" } : Jvm.MethodName)) ∈ cb_TB := cb_i6 44 rfl rfl
theorem cw_1248 : (Jvm.Cond.methodLink "CauseBookLaw" (64 : Nat) ({ cls := "CauseBookModel", name := "note", desc := "(II)I" } : Jvm.MethodName)) ∈ cb_TB := cb_i6 48 rfl rfl
theorem cw_1253 : (Jvm.Cond.methodLink "CauseBookLaw" (69 : Nat) ({ cls := "CauseBookModel", name := "clear", desc := "()I" } : Jvm.MethodName)) ∈ cb_TB := cb_i6 53 rfl rfl
theorem cw_1257 : (Jvm.Cond.methodLink "CauseBookLaw" (73 : Nat) ({ cls := "CauseBookModel", name := "window", desc := "(II)I" } : Jvm.MethodName)) ∈ cb_TB := cb_i6 57 rfl rfl
theorem cw_1265 : (Jvm.Cond.methodLink "CauseBookLaw" (89 : Nat) ({ cls := "CauseBookModel", name := "time", desc := "(III)I" } : Jvm.MethodName)) ∈ cb_TB := cb_i6 65 rfl rfl
theorem cw_1297 : (Jvm.Cond.methodLink "CauseBookLaw" (93 : Nat) ({ cls := "CauseBookModel", name := "spread", desc := "(II)I" } : Jvm.MethodName)) ∈ cb_TB := cb_i6 97 rfl rfl
theorem cw_1305 : (Jvm.Cond.methodLink "CauseBookLaw" (97 : Nat) ({ cls := "CauseBookModel", name := "code", desc := "(I)I" } : Jvm.MethodName)) ∈ cb_TB := cb_i6 105 rfl rfl
theorem cw_1321 : (Jvm.Cond.methodLink "CauseBookLaw" (101 : Nat) ({ cls := "CauseBookModel", name := "distance", desc := "(III)I" } : Jvm.MethodName)) ∈ cb_TB := cb_i6 121 rfl rfl
theorem cw_1341 : (Jvm.Cond.methodLink "CauseBookLaw" (52 : Nat) ({ cls := "CauseBookModel", name := "reduce", desc := "(I)I" } : Jvm.MethodName)) ∈ cb_TB := cb_i6 141 rfl rfl
theorem cw_1354 : (Jvm.Cond.methodLink "CauseBookLaw" (158 : Nat) ({ cls := "CauseBookModel", name := "reduced", desc := "(I)I" } : Jvm.MethodName)) ∈ cb_TB := cb_i6 154 rfl rfl
theorem cw_1358 : (Jvm.Cond.methodLink "CauseBookLaw" (105 : Nat) ({ cls := "CauseBookModel", name := "nearest", desc := "(I)I" } : Jvm.MethodName)) ∈ cb_TB := cb_i6 158 rfl rfl
theorem cw_1369 : (Jvm.Cond.methodLink "CauseBookLaw" (109 : Nat) ({ cls := "CauseBookModel", name := "joint", desc := "(II)I" } : Jvm.MethodName)) ∈ cb_TB := cb_i6 169 rfl rfl
theorem cw_1373 : (Jvm.Cond.methodLink "CauseBookLaw" (114 : Nat) ({ cls := "CauseBookModel", name := "odds", desc := "(II)J" } : Jvm.MethodName)) ∈ cb_TB := cb_i6 173 rfl rfl
theorem cw_1389 : (Jvm.Cond.methodLink "CauseBookLaw" (118 : Nat) ({ cls := "CauseBookModel", name := "likeliest", desc := "(I)I" } : Jvm.MethodName)) ∈ cb_TB := cb_i6 189 rfl rfl
theorem cw_1393 : (Jvm.Cond.methodLink "CauseBookLaw" (122 : Nat) ({ cls := "CauseBookModel", name := "ranked", desc := "(I)I" } : Jvm.MethodName)) ∈ cb_TB := cb_i6 193 rfl rfl
theorem cw_1401 : (Jvm.Cond.methodLink "CauseBookLaw" (126 : Nat) ({ cls := "CauseBookModel", name := "hold", desc := "(I)I" } : Jvm.MethodName)) ∈ cb_TB := cb_i6 201 rfl rfl
theorem cw_1405 : (Jvm.Cond.methodLink "CauseBookLaw" (130 : Nat) ({ cls := "CauseBookModel", name := "minimal", desc := "(II)I" } : Jvm.MethodName)) ∈ cb_TB := cb_i6 205 rfl rfl
theorem cw_1417 : (Jvm.Cond.methodLink "CauseBookLaw" (150 : Nat) ({ cls := "CauseBookModel", name := "groups", desc := "(I)I" } : Jvm.MethodName)) ∈ cb_TB := cb_i6 217 rfl rfl
theorem cw_1433 : (Jvm.Cond.methodLink "CauseBookLaw" (154 : Nat) ({ cls := "CauseBookModel", name := "group", desc := "(I)I" } : Jvm.MethodName)) ∈ cb_TB := cb_i6 233 rfl rfl
theorem cw_1437 : (Jvm.Cond.methodLink "CauseBookLaw" (162 : Nat) ({ cls := "CauseBookModel", name := "ask", desc := "(I)I" } : Jvm.MethodName)) ∈ cb_TB := cb_i6 237 rfl rfl
theorem cw_1441 : (Jvm.Cond.methodLink "CauseBookLaw" (134 : Nat) ({ cls := "CauseBookModel", name := "weakest", desc := "(I)I" } : Jvm.MethodName)) ∈ cb_TB := cb_i7 1 rfl rfl
theorem cw_1449 : (Jvm.Cond.methodLink "CauseBookLaw" (138 : Nat) ({ cls := "CauseBookModel", name := "ordered", desc := "(II)I" } : Jvm.MethodName)) ∈ cb_TB := cb_i7 9 rfl rfl
theorem cw_1457 : (Jvm.Cond.methodLink "CauseBookLaw" (142 : Nat) ({ cls := "CauseBookModel", name := "sure", desc := "(I)I" } : Jvm.MethodName)) ∈ cb_TB := cb_i7 17 rfl rfl
theorem cw_1465 : (Jvm.Cond.methodLink "CauseBookLaw" (146 : Nat) ({ cls := "CauseBookModel", name := "busiest", desc := "(II)I" } : Jvm.MethodName)) ∈ cb_TB := cb_i7 25 rfl rfl
theorem cw_1469 : (Jvm.Cond.methodLink "CauseBookLaw" (166 : Nat) ({ cls := "CauseBookModel", name := "cuts", desc := "(III)I" } : Jvm.MethodName)) ∈ cb_TB := cb_i7 29 rfl rfl
theorem cw_1477 : (Jvm.Cond.methodLink "CauseBookLaw" (170 : Nat) ({ cls := "CauseBookModel", name := "explains", desc := "(II)I" } : Jvm.MethodName)) ∈ cb_TB := cb_i7 37 rfl rfl
theorem cw_1485 : (Jvm.Cond.methodLink "CauseBookLaw" (174 : Nat) ({ cls := "CauseBookModel", name := "best", desc := "(II)I" } : Jvm.MethodName)) ∈ cb_TB := cb_i7 45 rfl rfl
theorem cw_1489 : (Jvm.Cond.methodLink "CauseBookLaw" (178 : Nat) ({ cls := "CauseBookModel", name := "cover", desc := "()I" } : Jvm.MethodName)) ∈ cb_TB := cb_i7 49 rfl rfl
theorem cw_1513 : (Jvm.Cond.methodLink "CauseBookLaw" (182 : Nat) ({ cls := "CauseBookModel", name := "ofCause", desc := "(II)I" } : Jvm.MethodName)) ∈ cb_TB := cb_i7 73 rfl rfl
theorem cw_1517 : (Jvm.Cond.methodLink "CauseBookLaw" (186 : Nat) ({ cls := "CauseBookModel", name := "ofSign", desc := "(II)I" } : Jvm.MethodName)) ∈ cb_TB := cb_i7 77 rfl rfl
theorem cw_1521 : (Jvm.Cond.methodLink "CauseBookLaw" (190 : Nat) ({ cls := "CauseBookModel", name := "ofObject", desc := "(II)I" } : Jvm.MethodName)) ∈ cb_TB := cb_i7 81 rfl rfl
theorem cw_1525 : (Jvm.Cond.methodLink "CauseBookLaw" (194 : Nat) ({ cls := "CauseBookModel", name := "ofRule", desc := "(II)I" } : Jvm.MethodName)) ∈ cb_TB := cb_i7 85 rfl rfl
theorem cw_1529 : (Jvm.Cond.methodLink "CauseBookLaw" (198 : Nat) ({ cls := "CauseBookModel", name := "count", desc := "(I)I" } : Jvm.MethodName)) ∈ cb_TB := cb_i7 89 rfl rfl
theorem cw_1534 : (Jvm.Cond.methodLink "CauseBookLaw" (202 : Nat) ({ cls := "CauseBookModel", name := "status", desc := "()I" } : Jvm.MethodName)) ∈ cb_TB := cb_i7 94 rfl rfl
