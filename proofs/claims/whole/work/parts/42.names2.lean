abbrev b_MA_abs : ByteArray := prog_12_method_61_code
abbrev y_MA_abs : MethodName := ⟨"java/lang/Math", "abs", "(J)J"⟩
abbrev b_SR_commonDivisor : ByteArray := prog_1_method_23_code
abbrev y_SR_commonDivisor : MethodName := ⟨"StructureRows", "commonDivisor", "(JJ)J"⟩
abbrev b_MN_divisor : ByteArray := prog_2_method_4_code
abbrev y_MN_divisor : MethodName := ⟨"StructureRows$Minors", "divisor", "(I)J"⟩
abbrev b_PW_missingMultiple : ByteArray := prog_3_method_7_code
abbrev y_PW_missingMultiple : MethodName := ⟨"StructureRows$Power", "missingMultiple", "(JJ)J"⟩
abbrev b_PW_find : ByteArray := prog_3_method_6_code
abbrev y_PW_find : MethodName := ⟨"StructureRows$Power", "find", "(LStructureRows$Reduction;)J"⟩
abbrev b_SR_count : ByteArray := prog_1_method_14_code
abbrev y_SR_count : MethodName := ⟨"StructureRows", "count", "()I"⟩
abbrev b_SR_forgetAnswers : ByteArray := prog_1_method_16_code
abbrev y_SR_forgetAnswers : MethodName := ⟨"StructureRows", "forgetAnswers", "()V"⟩
abbrev b_SR_clear : ByteArray := prog_1_method_15_code
abbrev y_SR_clear : MethodName := ⟨"StructureRows", "clear", "()V"⟩
abbrev b_SR_requireBelow : ByteArray := prog_1_method_20_code
abbrev y_SR_requireBelow : MethodName := ⟨"StructureRows", "requireBelow", "(II)V"⟩
abbrev b_SR_requireElement : ByteArray := prog_1_method_18_code
abbrev y_SR_requireElement : MethodName := ⟨"StructureRows", "requireElement", "(I)V"⟩
abbrev b_SR_requireLetter : ByteArray := prog_1_method_19_code
abbrev y_SR_requireLetter : MethodName := ⟨"StructureRows", "requireLetter", "(I)V"⟩
abbrev b_SR_isExponent : ByteArray := prog_1_method_22_code
abbrev y_SR_isExponent : MethodName := ⟨"StructureRows", "isExponent", "(I)Z"⟩
abbrev b_SR_requireExponent : ByteArray := prog_1_method_21_code
abbrev y_SR_requireExponent : MethodName := ⟨"StructureRows", "requireExponent", "(I)V"⟩
abbrev b_SR_element : ByteArray := prog_1_method_2_code
abbrev y_SR_element : MethodName := ⟨"StructureRows", "element", "()I"⟩
abbrev b_SR_put : ByteArray := prog_1_method_3_code
abbrev y_SR_put : MethodName := ⟨"StructureRows", "put", "(III)Z"⟩
abbrev b_SR_at : ByteArray := prog_1_method_4_code
abbrev y_SR_at : MethodName := ⟨"StructureRows", "at", "(II)I"⟩
abbrev b_SR_multiply : ByteArray := prog_1_method_5_code
abbrev y_SR_multiply : MethodName := ⟨"StructureRows", "multiply", "(III)Z"⟩
abbrev b_SR_settle : ByteArray := prog_1_method_17_code
abbrev y_SR_settle : MethodName := ⟨"StructureRows", "settle", "()V"⟩
abbrev b_SR_rank : ByteArray := prog_1_method_6_code
abbrev y_SR_rank : MethodName := ⟨"StructureRows", "rank", "()I"⟩
abbrev b_SR_relations : ByteArray := prog_1_method_7_code
abbrev y_SR_relations : MethodName := ⟨"StructureRows", "relations", "()I"⟩
abbrev b_SR_relation : ByteArray := prog_1_method_8_code
abbrev y_SR_relation : MethodName := ⟨"StructureRows", "relation", "(II)J"⟩
abbrev b_SR_group : ByteArray := prog_1_method_9_code
abbrev y_SR_group : MethodName := ⟨"StructureRows", "group", "(II)J"⟩
abbrev b_SR_hull : ByteArray := prog_1_method_10_code
abbrev y_SR_hull : MethodName := ⟨"StructureRows", "hull", "(II)J"⟩
abbrev b_SR_factor : ByteArray := prog_1_method_11_code
abbrev y_SR_factor : MethodName := ⟨"StructureRows", "factor", "(I)J"⟩
abbrev b_SR_test : ByteArray := prog_1_method_12_code
abbrev y_SR_test : MethodName := ⟨"StructureRows", "test", "(IIII)J"⟩
abbrev b_SR_times : ByteArray := prog_1_method_13_code
abbrev y_SR_times : MethodName := ⟨"StructureRows", "times", "(I)J"⟩
theorem tw_0 : (Cond.selects "StructureRows" ⟨"StructureRows", "settle", "()V"⟩ ⟨"StructureRows", "settle", "()V"⟩) ∈ zz_GW := zz_in 0 (by decide +kernel) (by decide +kernel)
theorem tw_9 : (Cond.selects "StructureRows" ⟨"StructureRows", "forgetAnswers", "()V"⟩ ⟨"StructureRows", "forgetAnswers", "()V"⟩) ∈ zz_GW := zz_in 9 (by decide +kernel) (by decide +kernel)
theorem tw_11 : (Cond.selects "StructureRows" ⟨"StructureRows", "requireElement", "(I)V"⟩ ⟨"StructureRows", "requireElement", "(I)V"⟩) ∈ zz_GW := zz_in 11 (by decide +kernel) (by decide +kernel)
theorem tw_13 : (Cond.selects "StructureRows$Power" ⟨"StructureRows$Power", "widen", "(JI)V"⟩ ⟨"StructureRows$Power", "widen", "(JI)V"⟩) ∈ zz_GW := zz_in 13 (by decide +kernel) (by decide +kernel)
theorem tw_14 : (Cond.selects "StructureRows$Power" ⟨"StructureRows$Power", "takeAwayShare", "(LStructureRows$Reduction;I)V"⟩ ⟨"StructureRows$Power", "takeAwayShare", "(LStructureRows$Reduction;I)V"⟩) ∈ zz_GW := zz_in 14 (by decide +kernel) (by decide +kernel)
theorem tw_15 : (Cond.selects "StructureRows$Power" ⟨"StructureRows$Power", "isNothingLeft", "()Z"⟩ ⟨"StructureRows$Power", "isNothingLeft", "()Z"⟩) ∈ zz_GW := zz_in 15 (by decide +kernel) (by decide +kernel)
theorem tw_31 : (Jvm.Cond.initialized "StructureRows") ∈ zz_GW := zz_in 31 (by decide +kernel) (by decide +kernel)
theorem tw_34 : (Jvm.Cond.initialized "StructureRows$Power") ∈ zz_GW := zz_in 34 (by decide +kernel) (by decide +kernel)
theorem tw_39 : (Jvm.Cond.initialized "java/lang/IllegalStateException") ∈ zz_GW := zz_in 39 (by decide +kernel) (by decide +kernel)
theorem tw_40 : (Jvm.Cond.initialized "java/lang/IndexOutOfBoundsException") ∈ zz_GW := zz_in 40 (by decide +kernel) (by decide +kernel)
theorem tw_41 : (Jvm.Cond.initialized "java/lang/IllegalArgumentException") ∈ zz_GW := zz_in 41 (by decide +kernel) (by decide +kernel)
theorem tw_105 : (Jvm.Cond.fieldLink "StructureRows" (9 : Nat) "StructureRows" "exponents" "[I") ∈ zz_GW := zz_in 105 (by decide +kernel) (by decide +kernel)
theorem tw_106 : (Jvm.Cond.fieldLink "StructureRows" (40 : Nat) "StructureRows" "count" "I") ∈ zz_GW := zz_in 106 (by decide +kernel) (by decide +kernel)
theorem tw_107 : (Jvm.Cond.fieldLink "StructureRows" (16 : Nat) "StructureRows" "byElement" "LStructureRows$Reduction;") ∈ zz_GW := zz_in 107 (by decide +kernel) (by decide +kernel)
theorem tw_108 : (Jvm.Cond.fieldLink "StructureRows" (20 : Nat) "StructureRows" "byLetter" "LStructureRows$Reduction;") ∈ zz_GW := zz_in 108 (by decide +kernel) (by decide +kernel)
theorem tw_109 : (Jvm.Cond.fieldLink "StructureRows" (23 : Nat) "StructureRows" "hullByLetter" "LStructureRows$Reduction;") ∈ zz_GW := zz_in 109 (by decide +kernel) (by decide +kernel)
theorem tw_110 : (Jvm.Cond.fieldLink "StructureRows" (119 : Nat) "StructureRows" "settled" "Z") ∈ zz_GW := zz_in 110 (by decide +kernel) (by decide +kernel)
theorem tw_111 : (Jvm.Cond.fieldLink "StructureRows" (29 : Nat) "StructureRows" "minors" "LStructureRows$Minors;") ∈ zz_GW := zz_in 111 (by decide +kernel) (by decide +kernel)
theorem tw_112 : (Jvm.Cond.fieldLink "StructureRows" (36 : Nat) "StructureRows" "knownPower" "LStructureRows$Power;") ∈ zz_GW := zz_in 112 (by decide +kernel) (by decide +kernel)
theorem tw_134 : (Jvm.Cond.methodLink "StructureRows" (73 : Nat) ({ cls := "StructureRows", name := "settle", desc := "()V" } : Jvm.MethodName)) ∈ zz_GW := zz_in 134 (by decide +kernel) (by decide +kernel)
theorem tw_136 : (Jvm.Cond.instanceMethod ({ cls := "StructureRows", name := "settle", desc := "()V" } : Jvm.MethodName)) ∈ zz_GW := zz_in 136 (by decide +kernel) (by decide +kernel)
theorem tw_137 : (Jvm.Cond.code ({ cls := "StructureRows", name := "settle", desc := "()V" } : Jvm.MethodName) prog_1_method_17_code (4 : Nat) (Option.none : Option Jvm.ClassFile.FieldType)) ∈ zz_GW := zz_in 137 (by decide +kernel) (by decide +kernel)
theorem tw_138 : (Jvm.Cond.methodLink "StructureRows" (126 : Nat) ({ cls := "StructureRows$Reduction", name := "open", desc := "(II)V" } : Jvm.MethodName)) ∈ zz_GW := zz_in 138 (by decide +kernel) (by decide +kernel)
theorem tw_139 : (Jvm.Cond.instanceMethod ({ cls := "StructureRows$Reduction", name := "open", desc := "(II)V" } : Jvm.MethodName)) ∈ zz_GW := zz_in 139 (by decide +kernel) (by decide +kernel)
theorem tw_140 : (Jvm.Cond.selects "StructureRows$Reduction" ({ cls := "StructureRows$Reduction", name := "open", desc := "(II)V" } : Jvm.MethodName) ({ cls := "StructureRows$Reduction", name := "open", desc := "(II)V" } : Jvm.MethodName)) ∈ zz_GW := zz_in 140 (by decide +kernel) (by decide +kernel)
theorem tw_141 : (Jvm.Cond.code ({ cls := "StructureRows$Reduction", name := "open", desc := "(II)V" } : Jvm.MethodName) prog_4_method_2_code (4 : Nat) (Option.none : Option Jvm.ClassFile.FieldType)) ∈ zz_GW := zz_in 141 (by decide +kernel) (by decide +kernel)
theorem tw_152 : (Jvm.Cond.methodLink "StructureRows" (129 : Nat) ({ cls := "StructureRows$Reduction", name := "set", desc := "(IIJ)V" } : Jvm.MethodName)) ∈ zz_GW := zz_in 152 (by decide +kernel) (by decide +kernel)
theorem tw_153 : (Jvm.Cond.methodLink "StructureRows" (133 : Nat) ({ cls := "StructureRows$Reduction", name := "reduce", desc := "()V" } : Jvm.MethodName)) ∈ zz_GW := zz_in 153 (by decide +kernel) (by decide +kernel)
theorem tw_154 : (Jvm.Cond.instanceMethod ({ cls := "StructureRows$Reduction", name := "reduce", desc := "()V" } : Jvm.MethodName)) ∈ zz_GW := zz_in 154 (by decide +kernel) (by decide +kernel)
theorem tw_155 : (Jvm.Cond.selects "StructureRows$Reduction" ({ cls := "StructureRows$Reduction", name := "reduce", desc := "()V" } : Jvm.MethodName) ({ cls := "StructureRows$Reduction", name := "reduce", desc := "()V" } : Jvm.MethodName)) ∈ zz_GW := zz_in 155 (by decide +kernel) (by decide +kernel)
theorem tw_156 : (Jvm.Cond.code ({ cls := "StructureRows$Reduction", name := "reduce", desc := "()V" } : Jvm.MethodName) prog_4_method_8_code (2 : Nat) (Option.none : Option Jvm.ClassFile.FieldType)) ∈ zz_GW := zz_in 156 (by decide +kernel) (by decide +kernel)
theorem tw_192 : (Jvm.Cond.methodLink "StructureRows" (80 : Nat) ({ cls := "StructureRows$Reduction", name := "kernelRows", desc := "()I" } : Jvm.MethodName)) ∈ zz_GW := zz_in 192 (by decide +kernel) (by decide +kernel)
theorem tw_193 : (Jvm.Cond.instanceMethod ({ cls := "StructureRows$Reduction", name := "kernelRows", desc := "()I" } : Jvm.MethodName)) ∈ zz_GW := zz_in 193 (by decide +kernel) (by decide +kernel)
theorem tw_194 : (Jvm.Cond.selects "StructureRows$Reduction" ({ cls := "StructureRows$Reduction", name := "kernelRows", desc := "()I" } : Jvm.MethodName) ({ cls := "StructureRows$Reduction", name := "kernelRows", desc := "()I" } : Jvm.MethodName)) ∈ zz_GW := zz_in 194 (by decide +kernel) (by decide +kernel)
theorem tw_195 : (Jvm.Cond.code ({ cls := "StructureRows$Reduction", name := "kernelRows", desc := "()I" } : Jvm.MethodName) prog_4_method_5_code (1 : Nat) (Option.some Jvm.ClassFile.FieldType.int)) ∈ zz_GW := zz_in 195 (by decide +kernel) (by decide +kernel)
theorem tw_196 : (Jvm.Cond.methodLink "StructureRows" (87 : Nat) ({ cls := "StructureRows$Reduction", name := "kernel", desc := "(II)J" } : Jvm.MethodName)) ∈ zz_GW := zz_in 196 (by decide +kernel) (by decide +kernel)
theorem tw_197 : (Jvm.Cond.instanceMethod ({ cls := "StructureRows$Reduction", name := "kernel", desc := "(II)J" } : Jvm.MethodName)) ∈ zz_GW := zz_in 197 (by decide +kernel) (by decide +kernel)
theorem tw_198 : (Jvm.Cond.selects "StructureRows$Reduction" ({ cls := "StructureRows$Reduction", name := "kernel", desc := "(II)J" } : Jvm.MethodName) ({ cls := "StructureRows$Reduction", name := "kernel", desc := "(II)J" } : Jvm.MethodName)) ∈ zz_GW := zz_in 198 (by decide +kernel) (by decide +kernel)
theorem tw_199 : (Jvm.Cond.code ({ cls := "StructureRows$Reduction", name := "kernel", desc := "(II)J" } : Jvm.MethodName) prog_4_method_7_code (3 : Nat) (Option.some Jvm.ClassFile.FieldType.long)) ∈ zz_GW := zz_in 199 (by decide +kernel) (by decide +kernel)
theorem tw_200 : (Jvm.Cond.methodLink "StructureRows" (76 : Nat) ({ cls := "StructureRows$Reduction", name := "imageRows", desc := "()I" } : Jvm.MethodName)) ∈ zz_GW := zz_in 200 (by decide +kernel) (by decide +kernel)
theorem tw_201 : (Jvm.Cond.instanceMethod ({ cls := "StructureRows$Reduction", name := "imageRows", desc := "()I" } : Jvm.MethodName)) ∈ zz_GW := zz_in 201 (by decide +kernel) (by decide +kernel)
theorem tw_202 : (Jvm.Cond.selects "StructureRows$Reduction" ({ cls := "StructureRows$Reduction", name := "imageRows", desc := "()I" } : Jvm.MethodName) ({ cls := "StructureRows$Reduction", name := "imageRows", desc := "()I" } : Jvm.MethodName)) ∈ zz_GW := zz_in 202 (by decide +kernel) (by decide +kernel)
theorem tw_203 : (Jvm.Cond.code ({ cls := "StructureRows$Reduction", name := "imageRows", desc := "()I" } : Jvm.MethodName) prog_4_method_4_code (1 : Nat) (Option.some Jvm.ClassFile.FieldType.int)) ∈ zz_GW := zz_in 203 (by decide +kernel) (by decide +kernel)
theorem tw_216 : (Jvm.Cond.methodLink "StructureRows" (51 : Nat) ({ cls := "StructureRows", name := "forgetAnswers", desc := "()V" } : Jvm.MethodName)) ∈ zz_GW := zz_in 216 (by decide +kernel) (by decide +kernel)
theorem tw_218 : (Jvm.Cond.instanceMethod ({ cls := "StructureRows", name := "forgetAnswers", desc := "()V" } : Jvm.MethodName)) ∈ zz_GW := zz_in 218 (by decide +kernel) (by decide +kernel)
theorem tw_219 : (Jvm.Cond.code ({ cls := "StructureRows", name := "forgetAnswers", desc := "()V" } : Jvm.MethodName) prog_1_method_16_code (1 : Nat) (Option.none : Option Jvm.ClassFile.FieldType)) ∈ zz_GW := zz_in 219 (by decide +kernel) (by decide +kernel)
theorem tw_220 : (Jvm.Cond.methodLink "StructureRows" (123 : Nat) ({ cls := "StructureRows$Power", name := "forget", desc := "()V" } : Jvm.MethodName)) ∈ zz_GW := zz_in 220 (by decide +kernel) (by decide +kernel)
theorem tw_221 : (Jvm.Cond.instanceMethod ({ cls := "StructureRows$Power", name := "forget", desc := "()V" } : Jvm.MethodName)) ∈ zz_GW := zz_in 221 (by decide +kernel) (by decide +kernel)
theorem tw_222 : (Jvm.Cond.selects "StructureRows$Power" ({ cls := "StructureRows$Power", name := "forget", desc := "()V" } : Jvm.MethodName) ({ cls := "StructureRows$Power", name := "forget", desc := "()V" } : Jvm.MethodName)) ∈ zz_GW := zz_in 222 (by decide +kernel) (by decide +kernel)
theorem tw_223 : (Jvm.Cond.code ({ cls := "StructureRows$Power", name := "forget", desc := "()V" } : Jvm.MethodName) prog_3_method_4_code (1 : Nat) (Option.none : Option Jvm.ClassFile.FieldType)) ∈ zz_GW := zz_in 223 (by decide +kernel) (by decide +kernel)
theorem tw_232 : (Jvm.Cond.classLink "StructureRows" (44 : Nat) "java/lang/IllegalStateException") ∈ zz_GW := zz_in 232 (by decide +kernel) (by decide +kernel)
theorem tw_309 : (Jvm.Cond.methodLink "StructureRows" (54 : Nat) ({ cls := "StructureRows", name := "requireElement", desc := "(I)V" } : Jvm.MethodName)) ∈ zz_GW := zz_in 309 (by decide +kernel) (by decide +kernel)
theorem tw_311 : (Jvm.Cond.instanceMethod ({ cls := "StructureRows", name := "requireElement", desc := "(I)V" } : Jvm.MethodName)) ∈ zz_GW := zz_in 311 (by decide +kernel) (by decide +kernel)
theorem tw_312 : (Jvm.Cond.code ({ cls := "StructureRows", name := "requireElement", desc := "(I)V" } : Jvm.MethodName) prog_1_method_18_code (2 : Nat) (Option.none : Option Jvm.ClassFile.FieldType)) ∈ zz_GW := zz_in 312 (by decide +kernel) (by decide +kernel)
theorem tw_313 : (Jvm.Cond.methodLink "StructureRows" (83 : Nat) ({ cls := "StructureRows", name := "requireBelow", desc := "(II)V" } : Jvm.MethodName)) ∈ zz_GW := zz_in 313 (by decide +kernel) (by decide +kernel)
theorem tw_314 : (Jvm.Cond.static ({ cls := "StructureRows", name := "requireBelow", desc := "(II)V" } : Jvm.MethodName)) ∈ zz_GW := zz_in 314 (by decide +kernel) (by decide +kernel)
theorem tw_315 : (Jvm.Cond.code ({ cls := "StructureRows", name := "requireBelow", desc := "(II)V" } : Jvm.MethodName) prog_1_method_20_code (2 : Nat) (Option.none : Option Jvm.ClassFile.FieldType)) ∈ zz_GW := zz_in 315 (by decide +kernel) (by decide +kernel)
theorem tw_316 : (Jvm.Cond.classLink "StructureRows" (136 : Nat) "java/lang/IndexOutOfBoundsException") ∈ zz_GW := zz_in 316 (by decide +kernel) (by decide +kernel)
theorem tw_332 : (Jvm.Cond.methodLink "StructureRows" (58 : Nat) ({ cls := "StructureRows", name := "requireLetter", desc := "(I)V" } : Jvm.MethodName)) ∈ zz_GW := zz_in 332 (by decide +kernel) (by decide +kernel)
theorem tw_333 : (Jvm.Cond.static ({ cls := "StructureRows", name := "requireLetter", desc := "(I)V" } : Jvm.MethodName)) ∈ zz_GW := zz_in 333 (by decide +kernel) (by decide +kernel)
theorem tw_334 : (Jvm.Cond.code ({ cls := "StructureRows", name := "requireLetter", desc := "(I)V" } : Jvm.MethodName) prog_1_method_19_code (1 : Nat) (Option.none : Option Jvm.ClassFile.FieldType)) ∈ zz_GW := zz_in 334 (by decide +kernel) (by decide +kernel)
theorem tw_335 : (Jvm.Cond.methodLink "StructureRows" (61 : Nat) ({ cls := "StructureRows", name := "requireExponent", desc := "(I)V" } : Jvm.MethodName)) ∈ zz_GW := zz_in 335 (by decide +kernel) (by decide +kernel)
theorem tw_336 : (Jvm.Cond.static ({ cls := "StructureRows", name := "requireExponent", desc := "(I)V" } : Jvm.MethodName)) ∈ zz_GW := zz_in 336 (by decide +kernel) (by decide +kernel)
theorem tw_337 : (Jvm.Cond.code ({ cls := "StructureRows", name := "requireExponent", desc := "(I)V" } : Jvm.MethodName) prog_1_method_21_code (1 : Nat) (Option.none : Option Jvm.ClassFile.FieldType)) ∈ zz_GW := zz_in 337 (by decide +kernel) (by decide +kernel)
theorem tw_338 : (Jvm.Cond.methodLink "StructureRows" (69 : Nat) ({ cls := "StructureRows", name := "isExponent", desc := "(I)Z" } : Jvm.MethodName)) ∈ zz_GW := zz_in 338 (by decide +kernel) (by decide +kernel)
theorem tw_339 : (Jvm.Cond.static ({ cls := "StructureRows", name := "isExponent", desc := "(I)Z" } : Jvm.MethodName)) ∈ zz_GW := zz_in 339 (by decide +kernel) (by decide +kernel)
theorem tw_340 : (Jvm.Cond.code ({ cls := "StructureRows", name := "isExponent", desc := "(I)Z" } : Jvm.MethodName) prog_1_method_22_code (1 : Nat) (Option.some Jvm.ClassFile.FieldType.boolean)) ∈ zz_GW := zz_in 340 (by decide +kernel) (by decide +kernel)
theorem tw_341 : (Jvm.Cond.classLink "StructureRows" (64 : Nat) "java/lang/IllegalArgumentException") ∈ zz_GW := zz_in 341 (by decide +kernel) (by decide +kernel)
theorem tw_386 : (Jvm.Cond.methodLink "StructureRows" (91 : Nat) ({ cls := "StructureRows$Reduction", name := "image", desc := "(II)J" } : Jvm.MethodName)) ∈ zz_GW := zz_in 386 (by decide +kernel) (by decide +kernel)
theorem tw_404 : (Jvm.Cond.methodLink "StructureRows" (94 : Nat) ({ cls := "StructureRows$Minors", name := "expand", desc := "([II)V" } : Jvm.MethodName)) ∈ zz_GW := zz_in 404 (by decide +kernel) (by decide +kernel)
theorem tw_405 : (Jvm.Cond.instanceMethod ({ cls := "StructureRows$Minors", name := "expand", desc := "([II)V" } : Jvm.MethodName)) ∈ zz_GW := zz_in 405 (by decide +kernel) (by decide +kernel)
theorem tw_406 : (Jvm.Cond.selects "StructureRows$Minors" ({ cls := "StructureRows$Minors", name := "expand", desc := "([II)V" } : Jvm.MethodName) ({ cls := "StructureRows$Minors", name := "expand", desc := "([II)V" } : Jvm.MethodName)) ∈ zz_GW := zz_in 406 (by decide +kernel) (by decide +kernel)
theorem tw_407 : (Jvm.Cond.code ({ cls := "StructureRows$Minors", name := "expand", desc := "([II)V" } : Jvm.MethodName) prog_2_method_2_code (7 : Nat) (Option.none : Option Jvm.ClassFile.FieldType)) ∈ zz_GW := zz_in 407 (by decide +kernel) (by decide +kernel)
theorem tw_418 : (Jvm.Cond.methodLink "StructureRows" (98 : Nat) ({ cls := "StructureRows$Minors", name := "divisor", desc := "(I)J" } : Jvm.MethodName)) ∈ zz_GW := zz_in 418 (by decide +kernel) (by decide +kernel)
theorem tw_419 : (Jvm.Cond.instanceMethod ({ cls := "StructureRows$Minors", name := "divisor", desc := "(I)J" } : Jvm.MethodName)) ∈ zz_GW := zz_in 419 (by decide +kernel) (by decide +kernel)
theorem tw_420 : (Jvm.Cond.selects "StructureRows$Minors" ({ cls := "StructureRows$Minors", name := "divisor", desc := "(I)J" } : Jvm.MethodName) ({ cls := "StructureRows$Minors", name := "divisor", desc := "(I)J" } : Jvm.MethodName)) ∈ zz_GW := zz_in 420 (by decide +kernel) (by decide +kernel)
theorem tw_421 : (Jvm.Cond.code ({ cls := "StructureRows$Minors", name := "divisor", desc := "(I)J" } : Jvm.MethodName) prog_2_method_4_code (6 : Nat) (Option.some Jvm.ClassFile.FieldType.long)) ∈ zz_GW := zz_in 421 (by decide +kernel) (by decide +kernel)
theorem tw_423 : (Jvm.Cond.static ({ cls := "StructureRows", name := "commonDivisor", desc := "(JJ)J" } : Jvm.MethodName)) ∈ zz_GW := zz_in 423 (by decide +kernel) (by decide +kernel)
theorem tw_424 : (Jvm.Cond.code ({ cls := "StructureRows", name := "commonDivisor", desc := "(JJ)J" } : Jvm.MethodName) prog_1_method_23_code (11 : Nat) (Option.some Jvm.ClassFile.FieldType.long)) ∈ zz_GW := zz_in 424 (by decide +kernel) (by decide +kernel)
theorem tw_425 : (Jvm.Cond.methodLink "StructureRows" (143 : Nat) ({ cls := "java/lang/Math", name := "abs", desc := "(J)J" } : Jvm.MethodName)) ∈ zz_GW := zz_in 425 (by decide +kernel) (by decide +kernel)
theorem tw_426 : (Jvm.Cond.static ({ cls := "java/lang/Math", name := "abs", desc := "(J)J" } : Jvm.MethodName)) ∈ zz_GW := zz_in 426 (by decide +kernel) (by decide +kernel)
theorem tw_427 : (Jvm.Cond.code ({ cls := "java/lang/Math", name := "abs", desc := "(J)J" } : Jvm.MethodName) prog_12_method_61_code (2 : Nat) (Option.some Jvm.ClassFile.FieldType.long)) ∈ zz_GW := zz_in 427 (by decide +kernel) (by decide +kernel)
theorem tw_435 : (Jvm.Cond.methodLink "StructureRows" (102 : Nat) ({ cls := "StructureRows$Power", name := "start", desc := "(IIII)V" } : Jvm.MethodName)) ∈ zz_GW := zz_in 435 (by decide +kernel) (by decide +kernel)
theorem tw_436 : (Jvm.Cond.instanceMethod ({ cls := "StructureRows$Power", name := "start", desc := "(IIII)V" } : Jvm.MethodName)) ∈ zz_GW := zz_in 436 (by decide +kernel) (by decide +kernel)
theorem tw_437 : (Jvm.Cond.selects "StructureRows$Power" ({ cls := "StructureRows$Power", name := "start", desc := "(IIII)V" } : Jvm.MethodName) ({ cls := "StructureRows$Power", name := "start", desc := "(IIII)V" } : Jvm.MethodName)) ∈ zz_GW := zz_in 437 (by decide +kernel) (by decide +kernel)
theorem tw_438 : (Jvm.Cond.code ({ cls := "StructureRows$Power", name := "start", desc := "(IIII)V" } : Jvm.MethodName) prog_3_method_5_code (5 : Nat) (Option.none : Option Jvm.ClassFile.FieldType)) ∈ zz_GW := zz_in 438 (by decide +kernel) (by decide +kernel)
theorem tw_439 : (Jvm.Cond.methodLink "StructureRows" (106 : Nat) ({ cls := "StructureRows$Power", name := "find", desc := "(LStructureRows$Reduction;)J" } : Jvm.MethodName)) ∈ zz_GW := zz_in 439 (by decide +kernel) (by decide +kernel)
theorem tw_440 : (Jvm.Cond.instanceMethod ({ cls := "StructureRows$Power", name := "find", desc := "(LStructureRows$Reduction;)J" } : Jvm.MethodName)) ∈ zz_GW := zz_in 440 (by decide +kernel) (by decide +kernel)
theorem tw_441 : (Jvm.Cond.selects "StructureRows$Power" ({ cls := "StructureRows$Power", name := "find", desc := "(LStructureRows$Reduction;)J" } : Jvm.MethodName) ({ cls := "StructureRows$Power", name := "find", desc := "(LStructureRows$Reduction;)J" } : Jvm.MethodName)) ∈ zz_GW := zz_in 441 (by decide +kernel) (by decide +kernel)
theorem tw_442 : (Jvm.Cond.code ({ cls := "StructureRows$Power", name := "find", desc := "(LStructureRows$Reduction;)J" } : Jvm.MethodName) prog_3_method_6_code (10 : Nat) (Option.some Jvm.ClassFile.FieldType.long)) ∈ zz_GW := zz_in 442 (by decide +kernel) (by decide +kernel)
theorem tw_443 : (Jvm.Cond.methodLink "StructureRows$Power" (22 : Nat) ({ cls := "StructureRows$Reduction", name := "imageRows", desc := "()I" } : Jvm.MethodName)) ∈ zz_GW := zz_in 443 (by decide +kernel) (by decide +kernel)
theorem tw_445 : (Jvm.Cond.methodLink "StructureRows$Power" (32 : Nat) ({ cls := "StructureRows$Power", name := "missingMultiple", desc := "(JJ)J" } : Jvm.MethodName)) ∈ zz_GW := zz_in 445 (by decide +kernel) (by decide +kernel)
theorem tw_446 : (Jvm.Cond.static ({ cls := "StructureRows$Power", name := "missingMultiple", desc := "(JJ)J" } : Jvm.MethodName)) ∈ zz_GW := zz_in 446 (by decide +kernel) (by decide +kernel)
theorem tw_447 : (Jvm.Cond.code ({ cls := "StructureRows$Power", name := "missingMultiple", desc := "(JJ)J" } : Jvm.MethodName) prog_3_method_7_code (6 : Nat) (Option.some Jvm.ClassFile.FieldType.long)) ∈ zz_GW := zz_in 447 (by decide +kernel) (by decide +kernel)
theorem tw_449 : (Jvm.Cond.methodLink "StructureRows$Power" (36 : Nat) ({ cls := "StructureRows$Power", name := "widen", desc := "(JI)V" } : Jvm.MethodName)) ∈ zz_GW := zz_in 449 (by decide +kernel) (by decide +kernel)
theorem tw_451 : (Jvm.Cond.instanceMethod ({ cls := "StructureRows$Power", name := "widen", desc := "(JI)V" } : Jvm.MethodName)) ∈ zz_GW := zz_in 451 (by decide +kernel) (by decide +kernel)
theorem tw_452 : (Jvm.Cond.code ({ cls := "StructureRows$Power", name := "widen", desc := "(JI)V" } : Jvm.MethodName) prog_3_method_8_code (5 : Nat) (Option.none : Option Jvm.ClassFile.FieldType)) ∈ zz_GW := zz_in 452 (by decide +kernel) (by decide +kernel)
theorem tw_453 : (Jvm.Cond.methodLink "StructureRows$Power" (40 : Nat) ({ cls := "StructureRows$Power", name := "takeAwayShare", desc := "(LStructureRows$Reduction;I)V" } : Jvm.MethodName)) ∈ zz_GW := zz_in 453 (by decide +kernel) (by decide +kernel)
theorem tw_455 : (Jvm.Cond.instanceMethod ({ cls := "StructureRows$Power", name := "takeAwayShare", desc := "(LStructureRows$Reduction;I)V" } : Jvm.MethodName)) ∈ zz_GW := zz_in 455 (by decide +kernel) (by decide +kernel)
theorem tw_456 : (Jvm.Cond.code ({ cls := "StructureRows$Power", name := "takeAwayShare", desc := "(LStructureRows$Reduction;I)V" } : Jvm.MethodName) prog_3_method_9_code (4 : Nat) (Option.none : Option Jvm.ClassFile.FieldType)) ∈ zz_GW := zz_in 456 (by decide +kernel) (by decide +kernel)
theorem tw_457 : (Jvm.Cond.methodLink "StructureRows$Power" (44 : Nat) ({ cls := "StructureRows$Power", name := "isNothingLeft", desc := "()Z" } : Jvm.MethodName)) ∈ zz_GW := zz_in 457 (by decide +kernel) (by decide +kernel)
theorem tw_459 : (Jvm.Cond.instanceMethod ({ cls := "StructureRows$Power", name := "isNothingLeft", desc := "()Z" } : Jvm.MethodName)) ∈ zz_GW := zz_in 459 (by decide +kernel) (by decide +kernel)
theorem tw_460 : (Jvm.Cond.code ({ cls := "StructureRows$Power", name := "isNothingLeft", desc := "()Z" } : Jvm.MethodName) prog_3_method_10_code (2 : Nat) (Option.some Jvm.ClassFile.FieldType.boolean)) ∈ zz_GW := zz_in 460 (by decide +kernel) (by decide +kernel)
theorem tw_468 : (Jvm.Cond.methodLink "StructureRows" (110 : Nat) ({ cls := "StructureRows$Power", name := "isKnown", desc := "()Z" } : Jvm.MethodName)) ∈ zz_GW := zz_in 468 (by decide +kernel) (by decide +kernel)
theorem tw_469 : (Jvm.Cond.instanceMethod ({ cls := "StructureRows$Power", name := "isKnown", desc := "()Z" } : Jvm.MethodName)) ∈ zz_GW := zz_in 469 (by decide +kernel) (by decide +kernel)
theorem tw_470 : (Jvm.Cond.selects "StructureRows$Power" ({ cls := "StructureRows$Power", name := "isKnown", desc := "()Z" } : Jvm.MethodName) ({ cls := "StructureRows$Power", name := "isKnown", desc := "()Z" } : Jvm.MethodName)) ∈ zz_GW := zz_in 470 (by decide +kernel) (by decide +kernel)
theorem tw_471 : (Jvm.Cond.code ({ cls := "StructureRows$Power", name := "isKnown", desc := "()Z" } : Jvm.MethodName) prog_3_method_2_code (1 : Nat) (Option.some Jvm.ClassFile.FieldType.boolean)) ∈ zz_GW := zz_in 471 (by decide +kernel) (by decide +kernel)
theorem tw_473 : (Jvm.Cond.methodLink "StructureRows" (116 : Nat) ({ cls := "StructureRows$Power", name := "share", desc := "(I)J" } : Jvm.MethodName)) ∈ zz_GW := zz_in 473 (by decide +kernel) (by decide +kernel)
theorem tw_474 : (Jvm.Cond.instanceMethod ({ cls := "StructureRows$Power", name := "share", desc := "(I)J" } : Jvm.MethodName)) ∈ zz_GW := zz_in 474 (by decide +kernel) (by decide +kernel)
theorem tw_475 : (Jvm.Cond.selects "StructureRows$Power" ({ cls := "StructureRows$Power", name := "share", desc := "(I)J" } : Jvm.MethodName) ({ cls := "StructureRows$Power", name := "share", desc := "(I)J" } : Jvm.MethodName)) ∈ zz_GW := zz_in 475 (by decide +kernel) (by decide +kernel)
theorem tw_476 : (Jvm.Cond.code ({ cls := "StructureRows$Power", name := "share", desc := "(I)J" } : Jvm.MethodName) prog_3_method_3_code (2 : Nat) (Option.some Jvm.ClassFile.FieldType.long)) ∈ zz_GW := zz_in 476 (by decide +kernel) (by decide +kernel)
