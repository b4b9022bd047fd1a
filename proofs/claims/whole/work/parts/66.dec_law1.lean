theorem tw_30 : (Jvm.Cond.initialized "StructureRowsLaw") ∈ zz_GW := zz_in 30 (by decide +kernel) (by decide +kernel)
theorem tw_130 : (Jvm.Cond.methodLink "StructureRowsLaw" (75 : Nat) ({ cls := "StructureRows", name := "rank", desc := "()I" } : Jvm.MethodName)) ∈ zz_GW := zz_in 130 (by decide +kernel) (by decide +kernel)
theorem tw_131 : (Jvm.Cond.instanceMethod ({ cls := "StructureRows", name := "rank", desc := "()I" } : Jvm.MethodName)) ∈ zz_GW := zz_in 131 (by decide +kernel) (by decide +kernel)
theorem tw_132 : (Jvm.Cond.selects "StructureRows" ({ cls := "StructureRows", name := "rank", desc := "()I" } : Jvm.MethodName) ({ cls := "StructureRows", name := "rank", desc := "()I" } : Jvm.MethodName)) ∈ zz_GW := zz_in 132 (by decide +kernel) (by decide +kernel)
theorem tw_133 : (Jvm.Cond.code ({ cls := "StructureRows", name := "rank", desc := "()I" } : Jvm.MethodName) prog_1_method_6_code (1 : Nat) (Option.some Jvm.ClassFile.FieldType.int)) ∈ zz_GW := zz_in 133 (by decide +kernel) (by decide +kernel)
theorem tw_204 : (Jvm.Cond.methodLink "StructureRowsLaw" (79 : Nat) ({ cls := "StructureRows", name := "relations", desc := "()I" } : Jvm.MethodName)) ∈ zz_GW := zz_in 204 (by decide +kernel) (by decide +kernel)
theorem tw_205 : (Jvm.Cond.instanceMethod ({ cls := "StructureRows", name := "relations", desc := "()I" } : Jvm.MethodName)) ∈ zz_GW := zz_in 205 (by decide +kernel) (by decide +kernel)
theorem tw_206 : (Jvm.Cond.selects "StructureRows" ({ cls := "StructureRows", name := "relations", desc := "()I" } : Jvm.MethodName) ({ cls := "StructureRows", name := "relations", desc := "()I" } : Jvm.MethodName)) ∈ zz_GW := zz_in 206 (by decide +kernel) (by decide +kernel)
theorem tw_207 : (Jvm.Cond.code ({ cls := "StructureRows", name := "relations", desc := "()I" } : Jvm.MethodName) prog_1_method_7_code (1 : Nat) (Option.some Jvm.ClassFile.FieldType.int)) ∈ zz_GW := zz_in 207 (by decide +kernel) (by decide +kernel)
theorem tw_208 : (Jvm.Cond.methodLink "StructureRowsLaw" (103 : Nat) ({ cls := "StructureRows", name := "count", desc := "()I" } : Jvm.MethodName)) ∈ zz_GW := zz_in 208 (by decide +kernel) (by decide +kernel)
theorem tw_209 : (Jvm.Cond.instanceMethod ({ cls := "StructureRows", name := "count", desc := "()I" } : Jvm.MethodName)) ∈ zz_GW := zz_in 209 (by decide +kernel) (by decide +kernel)
theorem tw_210 : (Jvm.Cond.selects "StructureRows" ({ cls := "StructureRows", name := "count", desc := "()I" } : Jvm.MethodName) ({ cls := "StructureRows", name := "count", desc := "()I" } : Jvm.MethodName)) ∈ zz_GW := zz_in 210 (by decide +kernel) (by decide +kernel)
theorem tw_211 : (Jvm.Cond.code ({ cls := "StructureRows", name := "count", desc := "()I" } : Jvm.MethodName) prog_1_method_14_code (1 : Nat) (Option.some Jvm.ClassFile.FieldType.int)) ∈ zz_GW := zz_in 211 (by decide +kernel) (by decide +kernel)
theorem tw_212 : (Jvm.Cond.methodLink "StructureRowsLaw" (107 : Nat) ({ cls := "StructureRows", name := "clear", desc := "()V" } : Jvm.MethodName)) ∈ zz_GW := zz_in 212 (by decide +kernel) (by decide +kernel)
theorem tw_213 : (Jvm.Cond.instanceMethod ({ cls := "StructureRows", name := "clear", desc := "()V" } : Jvm.MethodName)) ∈ zz_GW := zz_in 213 (by decide +kernel) (by decide +kernel)
theorem tw_214 : (Jvm.Cond.selects "StructureRows" ({ cls := "StructureRows", name := "clear", desc := "()V" } : Jvm.MethodName) ({ cls := "StructureRows", name := "clear", desc := "()V" } : Jvm.MethodName)) ∈ zz_GW := zz_in 214 (by decide +kernel) (by decide +kernel)
theorem tw_215 : (Jvm.Cond.code ({ cls := "StructureRows", name := "clear", desc := "()V" } : Jvm.MethodName) prog_1_method_15_code (1 : Nat) (Option.none : Option Jvm.ClassFile.FieldType)) ∈ zz_GW := zz_in 215 (by decide +kernel) (by decide +kernel)
theorem tw_224 : (Jvm.Cond.methodLink "StructureRowsLaw" (55 : Nat) ({ cls := "StructureRowsLaw", name := "element", desc := "(LStructureRows;[J)I" } : Jvm.MethodName)) ∈ zz_GW := zz_in 224 (by decide +kernel) (by decide +kernel)
theorem tw_225 : (Jvm.Cond.static ({ cls := "StructureRowsLaw", name := "element", desc := "(LStructureRows;[J)I" } : Jvm.MethodName)) ∈ zz_GW := zz_in 225 (by decide +kernel) (by decide +kernel)
theorem tw_226 : (Jvm.Cond.codeWith ({ cls := "StructureRowsLaw", name := "element", desc := "(LStructureRows;[J)I" } : Jvm.MethodName) method_3_code (3 : Nat) (Option.some Jvm.ClassFile.FieldType.int) [((0 : Nat), (8 : Nat), (11 : Nat), (13 : Nat))]) ∈ zz_GW := zz_in 226 (by decide +kernel) (by decide +kernel)
theorem tw_300 : (Jvm.Cond.methodLink "StructureRowsLaw" (64 : Nat) ({ cls := "StructureRowsLaw", name := "put", desc := "(LStructureRows;III[J)I" } : Jvm.MethodName)) ∈ zz_GW := zz_in 300 (by decide +kernel) (by decide +kernel)
theorem tw_301 : (Jvm.Cond.static ({ cls := "StructureRowsLaw", name := "put", desc := "(LStructureRows;III[J)I" } : Jvm.MethodName)) ∈ zz_GW := zz_in 301 (by decide +kernel) (by decide +kernel)
theorem tw_302 : (Jvm.Cond.codeWith ({ cls := "StructureRowsLaw", name := "put", desc := "(LStructureRows;III[J)I" } : Jvm.MethodName) method_4_code (6 : Nat) (Option.some Jvm.ClassFile.FieldType.int) [((0 : Nat), (19 : Nat), (22 : Nat), (19 : Nat)), ((0 : Nat), (19 : Nat), (26 : Nat), (21 : Nat))]) ∈ zz_GW := zz_in 302 (by decide +kernel) (by decide +kernel)
theorem tw_357 : (Jvm.Cond.methodLink "StructureRowsLaw" (68 : Nat) ({ cls := "StructureRowsLaw", name := "at", desc := "(LStructureRows;II[J)I" } : Jvm.MethodName)) ∈ zz_GW := zz_in 357 (by decide +kernel) (by decide +kernel)
theorem tw_358 : (Jvm.Cond.static ({ cls := "StructureRowsLaw", name := "at", desc := "(LStructureRows;II[J)I" } : Jvm.MethodName)) ∈ zz_GW := zz_in 358 (by decide +kernel) (by decide +kernel)
theorem tw_359 : (Jvm.Cond.codeWith ({ cls := "StructureRowsLaw", name := "at", desc := "(LStructureRows;II[J)I" } : Jvm.MethodName) method_5_code (5 : Nat) (Option.some Jvm.ClassFile.FieldType.int) [((0 : Nat), (10 : Nat), (13 : Nat), (19 : Nat))]) ∈ zz_GW := zz_in 359 (by decide +kernel) (by decide +kernel)
theorem tw_364 : (Jvm.Cond.methodLink "StructureRowsLaw" (72 : Nat) ({ cls := "StructureRowsLaw", name := "multiply", desc := "(LStructureRows;III[J)I" } : Jvm.MethodName)) ∈ zz_GW := zz_in 364 (by decide +kernel) (by decide +kernel)
theorem tw_365 : (Jvm.Cond.static ({ cls := "StructureRowsLaw", name := "multiply", desc := "(LStructureRows;III[J)I" } : Jvm.MethodName)) ∈ zz_GW := zz_in 365 (by decide +kernel) (by decide +kernel)
theorem tw_366 : (Jvm.Cond.codeWith ({ cls := "StructureRowsLaw", name := "multiply", desc := "(LStructureRows;III[J)I" } : Jvm.MethodName) method_6_code (6 : Nat) (Option.some Jvm.ClassFile.FieldType.int) [((0 : Nat), (19 : Nat), (22 : Nat), (19 : Nat)), ((0 : Nat), (19 : Nat), (26 : Nat), (21 : Nat))]) ∈ zz_GW := zz_in 366 (by decide +kernel) (by decide +kernel)
theorem tw_372 : (Jvm.Cond.methodLink "StructureRowsLaw" (83 : Nat) ({ cls := "StructureRowsLaw", name := "relation", desc := "(LStructureRows;II[J)I" } : Jvm.MethodName)) ∈ zz_GW := zz_in 372 (by decide +kernel) (by decide +kernel)
theorem tw_373 : (Jvm.Cond.static ({ cls := "StructureRowsLaw", name := "relation", desc := "(LStructureRows;II[J)I" } : Jvm.MethodName)) ∈ zz_GW := zz_in 373 (by decide +kernel) (by decide +kernel)
theorem tw_374 : (Jvm.Cond.codeWith ({ cls := "StructureRowsLaw", name := "relation", desc := "(LStructureRows;II[J)I" } : Jvm.MethodName) method_7_code (5 : Nat) (Option.some Jvm.ClassFile.FieldType.int) [((0 : Nat), (9 : Nat), (12 : Nat), (19 : Nat))]) ∈ zz_GW := zz_in 374 (by decide +kernel) (by decide +kernel)
theorem tw_379 : (Jvm.Cond.methodLink "StructureRowsLaw" (86 : Nat) ({ cls := "StructureRowsLaw", name := "group", desc := "(LStructureRows;II[J)I" } : Jvm.MethodName)) ∈ zz_GW := zz_in 379 (by decide +kernel) (by decide +kernel)
theorem tw_380 : (Jvm.Cond.static ({ cls := "StructureRowsLaw", name := "group", desc := "(LStructureRows;II[J)I" } : Jvm.MethodName)) ∈ zz_GW := zz_in 380 (by decide +kernel) (by decide +kernel)
theorem tw_381 : (Jvm.Cond.codeWith ({ cls := "StructureRowsLaw", name := "group", desc := "(LStructureRows;II[J)I" } : Jvm.MethodName) method_8_code (5 : Nat) (Option.some Jvm.ClassFile.FieldType.int) [((0 : Nat), (9 : Nat), (12 : Nat), (19 : Nat))]) ∈ zz_GW := zz_in 381 (by decide +kernel) (by decide +kernel)
theorem tw_390 : (Jvm.Cond.methodLink "StructureRowsLaw" (89 : Nat) ({ cls := "StructureRowsLaw", name := "hull", desc := "(LStructureRows;II[J)I" } : Jvm.MethodName)) ∈ zz_GW := zz_in 390 (by decide +kernel) (by decide +kernel)
theorem tw_391 : (Jvm.Cond.static ({ cls := "StructureRowsLaw", name := "hull", desc := "(LStructureRows;II[J)I" } : Jvm.MethodName)) ∈ zz_GW := zz_in 391 (by decide +kernel) (by decide +kernel)
theorem tw_392 : (Jvm.Cond.codeWith ({ cls := "StructureRowsLaw", name := "hull", desc := "(LStructureRows;II[J)I" } : Jvm.MethodName) method_9_code (5 : Nat) (Option.some Jvm.ClassFile.FieldType.int) [((0 : Nat), (9 : Nat), (12 : Nat), (19 : Nat))]) ∈ zz_GW := zz_in 392 (by decide +kernel) (by decide +kernel)
theorem tw_397 : (Jvm.Cond.methodLink "StructureRowsLaw" (92 : Nat) ({ cls := "StructureRowsLaw", name := "factor", desc := "(LStructureRows;I[J)I" } : Jvm.MethodName)) ∈ zz_GW := zz_in 397 (by decide +kernel) (by decide +kernel)
theorem tw_398 : (Jvm.Cond.static ({ cls := "StructureRowsLaw", name := "factor", desc := "(LStructureRows;I[J)I" } : Jvm.MethodName)) ∈ zz_GW := zz_in 398 (by decide +kernel) (by decide +kernel)
theorem tw_399 : (Jvm.Cond.codeWith ({ cls := "StructureRowsLaw", name := "factor", desc := "(LStructureRows;I[J)I" } : Jvm.MethodName) method_10_code (4 : Nat) (Option.some Jvm.ClassFile.FieldType.int) [((0 : Nat), (8 : Nat), (11 : Nat), (19 : Nat))]) ∈ zz_GW := zz_in 399 (by decide +kernel) (by decide +kernel)
theorem tw_428 : (Jvm.Cond.methodLink "StructureRowsLaw" (96 : Nat) ({ cls := "StructureRowsLaw", name := "test", desc := "(LStructureRows;IIII[J)I" } : Jvm.MethodName)) ∈ zz_GW := zz_in 428 (by decide +kernel) (by decide +kernel)
theorem tw_429 : (Jvm.Cond.static ({ cls := "StructureRowsLaw", name := "test", desc := "(LStructureRows;IIII[J)I" } : Jvm.MethodName)) ∈ zz_GW := zz_in 429 (by decide +kernel) (by decide +kernel)
theorem tw_430 : (Jvm.Cond.codeWith ({ cls := "StructureRowsLaw", name := "test", desc := "(LStructureRows;IIII[J)I" } : Jvm.MethodName) method_11_code (7 : Nat) (Option.some Jvm.ClassFile.FieldType.int) [((0 : Nat), (13 : Nat), (16 : Nat), (21 : Nat))]) ∈ zz_GW := zz_in 430 (by decide +kernel) (by decide +kernel)
theorem tw_461 : (Jvm.Cond.methodLink "StructureRowsLaw" (100 : Nat) ({ cls := "StructureRowsLaw", name := "times", desc := "(LStructureRows;I[J)I" } : Jvm.MethodName)) ∈ zz_GW := zz_in 461 (by decide +kernel) (by decide +kernel)
theorem tw_462 : (Jvm.Cond.static ({ cls := "StructureRowsLaw", name := "times", desc := "(LStructureRows;I[J)I" } : Jvm.MethodName)) ∈ zz_GW := zz_in 462 (by decide +kernel) (by decide +kernel)
theorem tw_463 : (Jvm.Cond.codeWith ({ cls := "StructureRowsLaw", name := "times", desc := "(LStructureRows;I[J)I" } : Jvm.MethodName) method_12_code (4 : Nat) (Option.some Jvm.ClassFile.FieldType.int) [((0 : Nat), (8 : Nat), (11 : Nat), (13 : Nat)), ((0 : Nat), (8 : Nat), (14 : Nat), (19 : Nat))]) ∈ zz_GW := zz_in 463 (by decide +kernel) (by decide +kernel)
theorem tw_527 : (Jvm.Cond.methodLink "StructureRowsLaw" (61 : Nat) ({ cls := "StructureRowsModel", name := "thrown", desc := "()I" } : Jvm.MethodName)) ∈ zz_GW := zz_in 527 (by decide +kernel) (by decide +kernel)
theorem tw_528 : (Jvm.Cond.instanceMethod ({ cls := "StructureRowsModel", name := "thrown", desc := "()I" } : Jvm.MethodName)) ∈ zz_GW := zz_in 528 (by decide +kernel) (by decide +kernel)
theorem tw_529 : (Jvm.Cond.selects "StructureRowsModel" ({ cls := "StructureRowsModel", name := "thrown", desc := "()I" } : Jvm.MethodName) ({ cls := "StructureRowsModel", name := "thrown", desc := "()I" } : Jvm.MethodName)) ∈ zz_GW := zz_in 529 (by decide +kernel) (by decide +kernel)
theorem tw_530 : (Jvm.Cond.code ({ cls := "StructureRowsModel", name := "thrown", desc := "()I" } : Jvm.MethodName) prog_6_method_2_code (1 : Nat) (Option.some Jvm.ClassFile.FieldType.int)) ∈ zz_GW := zz_in 530 (by decide +kernel) (by decide +kernel)
theorem tw_531 : (Jvm.Cond.methodLink "StructureRowsLaw" (60 : Nat) ({ cls := "StructureRowsModel", name := "element", desc := "()I" } : Jvm.MethodName)) ∈ zz_GW := zz_in 531 (by decide +kernel) (by decide +kernel)
theorem tw_532 : (Jvm.Cond.instanceMethod ({ cls := "StructureRowsModel", name := "element", desc := "()I" } : Jvm.MethodName)) ∈ zz_GW := zz_in 532 (by decide +kernel) (by decide +kernel)
theorem tw_533 : (Jvm.Cond.selects "StructureRowsModel" ({ cls := "StructureRowsModel", name := "element", desc := "()I" } : Jvm.MethodName) ({ cls := "StructureRowsModel", name := "element", desc := "()I" } : Jvm.MethodName)) ∈ zz_GW := zz_in 533 (by decide +kernel) (by decide +kernel)
theorem tw_534 : (Jvm.Cond.code ({ cls := "StructureRowsModel", name := "element", desc := "()I" } : Jvm.MethodName) prog_6_method_5_code (2 : Nat) (Option.some Jvm.ClassFile.FieldType.int)) ∈ zz_GW := zz_in 534 (by decide +kernel) (by decide +kernel)
theorem tw_535 : (Jvm.Cond.methodLink "StructureRowsLaw" (67 : Nat) ({ cls := "StructureRowsModel", name := "put", desc := "(III)Z" } : Jvm.MethodName)) ∈ zz_GW := zz_in 535 (by decide +kernel) (by decide +kernel)
theorem tw_536 : (Jvm.Cond.instanceMethod ({ cls := "StructureRowsModel", name := "put", desc := "(III)Z" } : Jvm.MethodName)) ∈ zz_GW := zz_in 536 (by decide +kernel) (by decide +kernel)
theorem tw_537 : (Jvm.Cond.selects "StructureRowsModel" ({ cls := "StructureRowsModel", name := "put", desc := "(III)Z" } : Jvm.MethodName) ({ cls := "StructureRowsModel", name := "put", desc := "(III)Z" } : Jvm.MethodName)) ∈ zz_GW := zz_in 537 (by decide +kernel) (by decide +kernel)
theorem tw_538 : (Jvm.Cond.code ({ cls := "StructureRowsModel", name := "put", desc := "(III)Z" } : Jvm.MethodName) prog_6_method_7_code (4 : Nat) (Option.some Jvm.ClassFile.FieldType.boolean)) ∈ zz_GW := zz_in 538 (by decide +kernel) (by decide +kernel)
theorem tw_549 : (Jvm.Cond.methodLink "StructureRowsLaw" (71 : Nat) ({ cls := "StructureRowsModel", name := "at", desc := "(II)I" } : Jvm.MethodName)) ∈ zz_GW := zz_in 549 (by decide +kernel) (by decide +kernel)
theorem tw_550 : (Jvm.Cond.instanceMethod ({ cls := "StructureRowsModel", name := "at", desc := "(II)I" } : Jvm.MethodName)) ∈ zz_GW := zz_in 550 (by decide +kernel) (by decide +kernel)
theorem tw_551 : (Jvm.Cond.selects "StructureRowsModel" ({ cls := "StructureRowsModel", name := "at", desc := "(II)I" } : Jvm.MethodName) ({ cls := "StructureRowsModel", name := "at", desc := "(II)I" } : Jvm.MethodName)) ∈ zz_GW := zz_in 551 (by decide +kernel) (by decide +kernel)
theorem tw_552 : (Jvm.Cond.code ({ cls := "StructureRowsModel", name := "at", desc := "(II)I" } : Jvm.MethodName) prog_6_method_8_code (3 : Nat) (Option.some Jvm.ClassFile.FieldType.int)) ∈ zz_GW := zz_in 552 (by decide +kernel) (by decide +kernel)
theorem tw_553 : (Jvm.Cond.methodLink "StructureRowsLaw" (74 : Nat) ({ cls := "StructureRowsModel", name := "multiply", desc := "(III)Z" } : Jvm.MethodName)) ∈ zz_GW := zz_in 553 (by decide +kernel) (by decide +kernel)
theorem tw_554 : (Jvm.Cond.instanceMethod ({ cls := "StructureRowsModel", name := "multiply", desc := "(III)Z" } : Jvm.MethodName)) ∈ zz_GW := zz_in 554 (by decide +kernel) (by decide +kernel)
theorem tw_555 : (Jvm.Cond.selects "StructureRowsModel" ({ cls := "StructureRowsModel", name := "multiply", desc := "(III)Z" } : Jvm.MethodName) ({ cls := "StructureRowsModel", name := "multiply", desc := "(III)Z" } : Jvm.MethodName)) ∈ zz_GW := zz_in 555 (by decide +kernel) (by decide +kernel)
theorem tw_556 : (Jvm.Cond.code ({ cls := "StructureRowsModel", name := "multiply", desc := "(III)Z" } : Jvm.MethodName) prog_6_method_9_code (5 : Nat) (Option.some Jvm.ClassFile.FieldType.boolean)) ∈ zz_GW := zz_in 556 (by decide +kernel) (by decide +kernel)
theorem tw_557 : (Jvm.Cond.methodLink "StructureRowsLaw" (106 : Nat) ({ cls := "StructureRowsModel", name := "count", desc := "()I" } : Jvm.MethodName)) ∈ zz_GW := zz_in 557 (by decide +kernel) (by decide +kernel)
theorem tw_558 : (Jvm.Cond.instanceMethod ({ cls := "StructureRowsModel", name := "count", desc := "()I" } : Jvm.MethodName)) ∈ zz_GW := zz_in 558 (by decide +kernel) (by decide +kernel)
theorem tw_559 : (Jvm.Cond.selects "StructureRowsModel" ({ cls := "StructureRowsModel", name := "count", desc := "()I" } : Jvm.MethodName) ({ cls := "StructureRowsModel", name := "count", desc := "()I" } : Jvm.MethodName)) ∈ zz_GW := zz_in 559 (by decide +kernel) (by decide +kernel)
theorem tw_560 : (Jvm.Cond.code ({ cls := "StructureRowsModel", name := "count", desc := "()I" } : Jvm.MethodName) prog_6_method_10_code (1 : Nat) (Option.some Jvm.ClassFile.FieldType.int)) ∈ zz_GW := zz_in 560 (by decide +kernel) (by decide +kernel)
theorem tw_561 : (Jvm.Cond.methodLink "StructureRowsLaw" (110 : Nat) ({ cls := "StructureRowsModel", name := "clear", desc := "()V" } : Jvm.MethodName)) ∈ zz_GW := zz_in 561 (by decide +kernel) (by decide +kernel)
theorem tw_562 : (Jvm.Cond.instanceMethod ({ cls := "StructureRowsModel", name := "clear", desc := "()V" } : Jvm.MethodName)) ∈ zz_GW := zz_in 562 (by decide +kernel) (by decide +kernel)
theorem tw_563 : (Jvm.Cond.selects "StructureRowsModel" ({ cls := "StructureRowsModel", name := "clear", desc := "()V" } : Jvm.MethodName) ({ cls := "StructureRowsModel", name := "clear", desc := "()V" } : Jvm.MethodName)) ∈ zz_GW := zz_in 563 (by decide +kernel) (by decide +kernel)
theorem tw_564 : (Jvm.Cond.code ({ cls := "StructureRowsModel", name := "clear", desc := "()V" } : Jvm.MethodName) prog_6_method_11_code (1 : Nat) (Option.none : Option Jvm.ClassFile.FieldType)) ∈ zz_GW := zz_in 564 (by decide +kernel) (by decide +kernel)
theorem tw_565 : (Jvm.Cond.methodLink "StructureRowsLaw" (78 : Nat) ({ cls := "StructureRowsModel", name := "rank", desc := "()I" } : Jvm.MethodName)) ∈ zz_GW := zz_in 565 (by decide +kernel) (by decide +kernel)
theorem tw_566 : (Jvm.Cond.instanceMethod ({ cls := "StructureRowsModel", name := "rank", desc := "()I" } : Jvm.MethodName)) ∈ zz_GW := zz_in 566 (by decide +kernel) (by decide +kernel)
theorem tw_567 : (Jvm.Cond.selects "StructureRowsModel" ({ cls := "StructureRowsModel", name := "rank", desc := "()I" } : Jvm.MethodName) ({ cls := "StructureRowsModel", name := "rank", desc := "()I" } : Jvm.MethodName)) ∈ zz_GW := zz_in 567 (by decide +kernel) (by decide +kernel)
theorem tw_568 : (Jvm.Cond.code ({ cls := "StructureRowsModel", name := "rank", desc := "()I" } : Jvm.MethodName) prog_6_method_21_code (1 : Nat) (Option.some Jvm.ClassFile.FieldType.int)) ∈ zz_GW := zz_in 568 (by decide +kernel) (by decide +kernel)
theorem tw_589 : (Jvm.Cond.methodLink "StructureRowsLaw" (82 : Nat) ({ cls := "StructureRowsModel", name := "relations", desc := "()I" } : Jvm.MethodName)) ∈ zz_GW := zz_in 589 (by decide +kernel) (by decide +kernel)
theorem tw_590 : (Jvm.Cond.instanceMethod ({ cls := "StructureRowsModel", name := "relations", desc := "()I" } : Jvm.MethodName)) ∈ zz_GW := zz_in 590 (by decide +kernel) (by decide +kernel)
theorem tw_591 : (Jvm.Cond.selects "StructureRowsModel" ({ cls := "StructureRowsModel", name := "relations", desc := "()I" } : Jvm.MethodName) ({ cls := "StructureRowsModel", name := "relations", desc := "()I" } : Jvm.MethodName)) ∈ zz_GW := zz_in 591 (by decide +kernel) (by decide +kernel)
theorem tw_592 : (Jvm.Cond.code ({ cls := "StructureRowsModel", name := "relations", desc := "()I" } : Jvm.MethodName) prog_6_method_22_code (1 : Nat) (Option.some Jvm.ClassFile.FieldType.int)) ∈ zz_GW := zz_in 592 (by decide +kernel) (by decide +kernel)
theorem tw_601 : (Jvm.Cond.methodLink "StructureRowsLaw" (85 : Nat) ({ cls := "StructureRowsModel", name := "relation", desc := "(II)J" } : Jvm.MethodName)) ∈ zz_GW := zz_in 601 (by decide +kernel) (by decide +kernel)
theorem tw_602 : (Jvm.Cond.instanceMethod ({ cls := "StructureRowsModel", name := "relation", desc := "(II)J" } : Jvm.MethodName)) ∈ zz_GW := zz_in 602 (by decide +kernel) (by decide +kernel)
theorem tw_603 : (Jvm.Cond.selects "StructureRowsModel" ({ cls := "StructureRowsModel", name := "relation", desc := "(II)J" } : Jvm.MethodName) ({ cls := "StructureRowsModel", name := "relation", desc := "(II)J" } : Jvm.MethodName)) ∈ zz_GW := zz_in 603 (by decide +kernel) (by decide +kernel)
theorem tw_604 : (Jvm.Cond.code ({ cls := "StructureRowsModel", name := "relation", desc := "(II)J" } : Jvm.MethodName) prog_6_method_23_code (3 : Nat) (Option.some Jvm.ClassFile.FieldType.long)) ∈ zz_GW := zz_in 604 (by decide +kernel) (by decide +kernel)
theorem tw_609 : (Jvm.Cond.methodLink "StructureRowsLaw" (88 : Nat) ({ cls := "StructureRowsModel", name := "group", desc := "(II)J" } : Jvm.MethodName)) ∈ zz_GW := zz_in 609 (by decide +kernel) (by decide +kernel)
theorem tw_610 : (Jvm.Cond.instanceMethod ({ cls := "StructureRowsModel", name := "group", desc := "(II)J" } : Jvm.MethodName)) ∈ zz_GW := zz_in 610 (by decide +kernel) (by decide +kernel)
theorem tw_611 : (Jvm.Cond.selects "StructureRowsModel" ({ cls := "StructureRowsModel", name := "group", desc := "(II)J" } : Jvm.MethodName) ({ cls := "StructureRowsModel", name := "group", desc := "(II)J" } : Jvm.MethodName)) ∈ zz_GW := zz_in 611 (by decide +kernel) (by decide +kernel)
theorem tw_612 : (Jvm.Cond.code ({ cls := "StructureRowsModel", name := "group", desc := "(II)J" } : Jvm.MethodName) prog_6_method_24_code (3 : Nat) (Option.some Jvm.ClassFile.FieldType.long)) ∈ zz_GW := zz_in 612 (by decide +kernel) (by decide +kernel)
theorem tw_613 : (Jvm.Cond.methodLink "StructureRowsLaw" (91 : Nat) ({ cls := "StructureRowsModel", name := "hull", desc := "(II)J" } : Jvm.MethodName)) ∈ zz_GW := zz_in 613 (by decide +kernel) (by decide +kernel)
theorem tw_614 : (Jvm.Cond.instanceMethod ({ cls := "StructureRowsModel", name := "hull", desc := "(II)J" } : Jvm.MethodName)) ∈ zz_GW := zz_in 614 (by decide +kernel) (by decide +kernel)
theorem tw_615 : (Jvm.Cond.selects "StructureRowsModel" ({ cls := "StructureRowsModel", name := "hull", desc := "(II)J" } : Jvm.MethodName) ({ cls := "StructureRowsModel", name := "hull", desc := "(II)J" } : Jvm.MethodName)) ∈ zz_GW := zz_in 615 (by decide +kernel) (by decide +kernel)
theorem tw_616 : (Jvm.Cond.code ({ cls := "StructureRowsModel", name := "hull", desc := "(II)J" } : Jvm.MethodName) prog_6_method_25_code (3 : Nat) (Option.some Jvm.ClassFile.FieldType.long)) ∈ zz_GW := zz_in 616 (by decide +kernel) (by decide +kernel)
theorem tw_621 : (Jvm.Cond.methodLink "StructureRowsLaw" (95 : Nat) ({ cls := "StructureRowsModel", name := "factor", desc := "(I)J" } : Jvm.MethodName)) ∈ zz_GW := zz_in 621 (by decide +kernel) (by decide +kernel)
theorem tw_622 : (Jvm.Cond.instanceMethod ({ cls := "StructureRowsModel", name := "factor", desc := "(I)J" } : Jvm.MethodName)) ∈ zz_GW := zz_in 622 (by decide +kernel) (by decide +kernel)
theorem tw_623 : (Jvm.Cond.selects "StructureRowsModel" ({ cls := "StructureRowsModel", name := "factor", desc := "(I)J" } : Jvm.MethodName) ({ cls := "StructureRowsModel", name := "factor", desc := "(I)J" } : Jvm.MethodName)) ∈ zz_GW := zz_in 623 (by decide +kernel) (by decide +kernel)
theorem tw_624 : (Jvm.Cond.code ({ cls := "StructureRowsModel", name := "factor", desc := "(I)J" } : Jvm.MethodName) prog_6_method_30_code (2 : Nat) (Option.some Jvm.ClassFile.FieldType.long)) ∈ zz_GW := zz_in 624 (by decide +kernel) (by decide +kernel)
theorem tw_639 : (Jvm.Cond.methodLink "StructureRowsLaw" (99 : Nat) ({ cls := "StructureRowsModel", name := "test", desc := "(IIII)J" } : Jvm.MethodName)) ∈ zz_GW := zz_in 639 (by decide +kernel) (by decide +kernel)
theorem tw_640 : (Jvm.Cond.instanceMethod ({ cls := "StructureRowsModel", name := "test", desc := "(IIII)J" } : Jvm.MethodName)) ∈ zz_GW := zz_in 640 (by decide +kernel) (by decide +kernel)
theorem tw_641 : (Jvm.Cond.selects "StructureRowsModel" ({ cls := "StructureRowsModel", name := "test", desc := "(IIII)J" } : Jvm.MethodName) ({ cls := "StructureRowsModel", name := "test", desc := "(IIII)J" } : Jvm.MethodName)) ∈ zz_GW := zz_in 641 (by decide +kernel) (by decide +kernel)
theorem tw_642 : (Jvm.Cond.code ({ cls := "StructureRowsModel", name := "test", desc := "(IIII)J" } : Jvm.MethodName) prog_6_method_32_code (8 : Nat) (Option.some Jvm.ClassFile.FieldType.long)) ∈ zz_GW := zz_in 642 (by decide +kernel) (by decide +kernel)
theorem tw_647 : (Jvm.Cond.methodLink "StructureRowsLaw" (102 : Nat) ({ cls := "StructureRowsModel", name := "times", desc := "(I)J" } : Jvm.MethodName)) ∈ zz_GW := zz_in 647 (by decide +kernel) (by decide +kernel)
theorem tw_648 : (Jvm.Cond.instanceMethod ({ cls := "StructureRowsModel", name := "times", desc := "(I)J" } : Jvm.MethodName)) ∈ zz_GW := zz_in 648 (by decide +kernel) (by decide +kernel)
theorem tw_649 : (Jvm.Cond.selects "StructureRowsModel" ({ cls := "StructureRowsModel", name := "times", desc := "(I)J" } : Jvm.MethodName) ({ cls := "StructureRowsModel", name := "times", desc := "(I)J" } : Jvm.MethodName)) ∈ zz_GW := zz_in 649 (by decide +kernel) (by decide +kernel)
theorem tw_650 : (Jvm.Cond.code ({ cls := "StructureRowsModel", name := "times", desc := "(I)J" } : Jvm.MethodName) prog_6_method_33_code (2 : Nat) (Option.some Jvm.ClassFile.FieldType.long)) ∈ zz_GW := zz_in 650 (by decide +kernel) (by decide +kernel)
abbrev b_LW_law : ByteArray := code
theorem d_LW_law_0 : decode b_LW_law 0 = .ok (.new 8, 3) := by decide +kernel
theorem d_LW_law_3 : decode b_LW_law 3 = .ok (.dup, 1) := by decide +kernel
theorem d_LW_law_4 : decode b_LW_law 4 = .ok (.invokespecial 51, 3) := by decide +kernel
theorem d_LW_law_7 : decode b_LW_law 7 = .ok (.astore_n 1, 1) := by decide +kernel
theorem d_LW_law_8 : decode b_LW_law 8 = .ok (.new 52, 3) := by decide +kernel
theorem d_LW_law_11 : decode b_LW_law 11 = .ok (.dup, 1) := by decide +kernel
theorem d_LW_law_12 : decode b_LW_law 12 = .ok (.invokespecial 54, 3) := by decide +kernel
theorem d_LW_law_15 : decode b_LW_law 15 = .ok (.astore_n 2, 1) := by decide +kernel
theorem d_LW_law_16 : decode b_LW_law 16 = .ok (.iconst 1, 1) := by decide +kernel
theorem d_LW_law_17 : decode b_LW_law 17 = .ok (.newarray .long, 2) := by decide +kernel
theorem d_LW_law_19 : decode b_LW_law 19 = .ok (.astore_n 3, 1) := by decide +kernel
theorem d_LW_law_20 : decode b_LW_law 20 = .ok (.iconst 0, 1) := by decide +kernel
theorem d_LW_law_21 : decode b_LW_law 21 = .ok (.istore 4, 2) := by decide +kernel
theorem d_LW_law_23 : decode b_LW_law 23 = .ok (.iload 4, 2) := by decide +kernel
theorem d_LW_law_25 : decode b_LW_law 25 = .ok (.aload_n 0, 1) := by decide +kernel
theorem d_LW_law_26 : decode b_LW_law 26 = .ok (.arraylength, 1) := by decide +kernel
theorem d_LW_law_27 : decode b_LW_law 27 = .ok (.iconst 5, 1) := by decide +kernel
theorem d_LW_law_28 : decode b_LW_law 28 = .ok (.isub, 1) := by decide +kernel
theorem d_LW_law_29 : decode b_LW_law 29 = .ok (.if_icmp .gt 823, 3) := by decide +kernel
theorem d_LW_law_32 : decode b_LW_law 32 = .ok (.aload_n 0, 1) := by decide +kernel
theorem d_LW_law_33 : decode b_LW_law 33 = .ok (.iload 4, 2) := by decide +kernel
theorem d_LW_law_35 : decode b_LW_law 35 = .ok (.iaload, 1) := by decide +kernel
theorem d_LW_law_36 : decode b_LW_law 36 = .ok (.bipush 15, 2) := by decide +kernel
theorem d_LW_law_38 : decode b_LW_law 38 = .ok (.iand, 1) := by decide +kernel
theorem d_LW_law_39 : decode b_LW_law 39 = .ok (.tableswitch 807 0 13 #[69, 113, 200, 268, 355, 368, 381, 448, 515, 582, 637, 728, 783, 796], 69) := by decide +kernel
theorem d_LW_law_108 : decode b_LW_law 108 = .ok (.aload_n 1, 1) := by decide +kernel
theorem d_LW_law_109 : decode b_LW_law 109 = .ok (.aload_n 3, 1) := by decide +kernel
theorem d_LW_law_110 : decode b_LW_law 110 = .ok (.invokestatic 55, 3) := by decide +kernel
theorem d_LW_law_113 : decode b_LW_law 113 = .ok (.istore 5, 2) := by decide +kernel
theorem d_LW_law_115 : decode b_LW_law 115 = .ok (.aload_n 2, 1) := by decide +kernel
theorem d_LW_law_116 : decode b_LW_law 116 = .ok (.invokevirtual 60, 3) := by decide +kernel
theorem d_LW_law_119 : decode b_LW_law 119 = .ok (.istore 6, 2) := by decide +kernel
theorem d_LW_law_121 : decode b_LW_law 121 = .ok (.aload_n 2, 1) := by decide +kernel
theorem d_LW_law_122 : decode b_LW_law 122 = .ok (.invokevirtual 61, 3) := by decide +kernel
theorem d_LW_law_125 : decode b_LW_law 125 = .ok (.iload 5, 2) := by decide +kernel
theorem d_LW_law_127 : decode b_LW_law 127 = .ok (.if_icmp .eq 5, 3) := by decide +kernel
theorem d_LW_law_130 : decode b_LW_law 130 = .ok (.iconst 0, 1) := by decide +kernel
theorem d_LW_law_131 : decode b_LW_law 131 = .ok (.ireturn, 1) := by decide +kernel
theorem d_LW_law_132 : decode b_LW_law 132 = .ok (.iload 5, 2) := by decide +kernel
theorem d_LW_law_134 : decode b_LW_law 134 = .ok (.ifCond .ne 15, 3) := by decide +kernel
theorem d_LW_law_137 : decode b_LW_law 137 = .ok (.aload_n 3, 1) := by decide +kernel
theorem d_LW_law_138 : decode b_LW_law 138 = .ok (.iconst 0, 1) := by decide +kernel
theorem d_LW_law_139 : decode b_LW_law 139 = .ok (.laload, 1) := by decide +kernel
theorem d_LW_law_140 : decode b_LW_law 140 = .ok (.iload 6, 2) := by decide +kernel
theorem d_LW_law_142 : decode b_LW_law 142 = .ok (.i2l, 1) := by decide +kernel
theorem d_LW_law_143 : decode b_LW_law 143 = .ok (.lcmp, 1) := by decide +kernel
theorem d_LW_law_144 : decode b_LW_law 144 = .ok (.ifCond .eq 5, 3) := by decide +kernel
theorem d_LW_law_147 : decode b_LW_law 147 = .ok (.iconst 0, 1) := by decide +kernel
theorem d_LW_law_148 : decode b_LW_law 148 = .ok (.ireturn, 1) := by decide +kernel
theorem d_LW_law_149 : decode b_LW_law 149 = .ok (.goto 697, 3) := by decide +kernel
theorem d_LW_law_152 : decode b_LW_law 152 = .ok (.aload_n 1, 1) := by decide +kernel
theorem d_LW_law_153 : decode b_LW_law 153 = .ok (.aload_n 0, 1) := by decide +kernel
theorem d_LW_law_154 : decode b_LW_law 154 = .ok (.iload 4, 2) := by decide +kernel
theorem d_LW_law_156 : decode b_LW_law 156 = .ok (.iconst 1, 1) := by decide +kernel
theorem d_LW_law_157 : decode b_LW_law 157 = .ok (.iadd, 1) := by decide +kernel
theorem d_LW_law_158 : decode b_LW_law 158 = .ok (.iaload, 1) := by decide +kernel
theorem d_LW_law_159 : decode b_LW_law 159 = .ok (.aload_n 0, 1) := by decide +kernel
theorem d_LW_law_160 : decode b_LW_law 160 = .ok (.iload 4, 2) := by decide +kernel
theorem d_LW_law_162 : decode b_LW_law 162 = .ok (.iconst 2, 1) := by decide +kernel
theorem d_LW_law_163 : decode b_LW_law 163 = .ok (.iadd, 1) := by decide +kernel
theorem d_LW_law_164 : decode b_LW_law 164 = .ok (.iaload, 1) := by decide +kernel
theorem d_LW_law_165 : decode b_LW_law 165 = .ok (.aload_n 0, 1) := by decide +kernel
theorem d_LW_law_166 : decode b_LW_law 166 = .ok (.iload 4, 2) := by decide +kernel
theorem d_LW_law_168 : decode b_LW_law 168 = .ok (.iconst 3, 1) := by decide +kernel
theorem d_LW_law_169 : decode b_LW_law 169 = .ok (.iadd, 1) := by decide +kernel
theorem d_LW_law_170 : decode b_LW_law 170 = .ok (.iaload, 1) := by decide +kernel
theorem d_LW_law_171 : decode b_LW_law 171 = .ok (.aload_n 3, 1) := by decide +kernel
theorem d_LW_law_172 : decode b_LW_law 172 = .ok (.invokestatic 64, 3) := by decide +kernel
theorem d_LW_law_175 : decode b_LW_law 175 = .ok (.istore 5, 2) := by decide +kernel
theorem d_LW_law_177 : decode b_LW_law 177 = .ok (.aload_n 2, 1) := by decide +kernel
theorem d_LW_law_178 : decode b_LW_law 178 = .ok (.aload_n 0, 1) := by decide +kernel
theorem d_LW_law_179 : decode b_LW_law 179 = .ok (.iload 4, 2) := by decide +kernel
theorem d_LW_law_181 : decode b_LW_law 181 = .ok (.iconst 1, 1) := by decide +kernel
theorem d_LW_law_182 : decode b_LW_law 182 = .ok (.iadd, 1) := by decide +kernel
theorem d_LW_law_183 : decode b_LW_law 183 = .ok (.iaload, 1) := by decide +kernel
theorem d_LW_law_184 : decode b_LW_law 184 = .ok (.aload_n 0, 1) := by decide +kernel
theorem d_LW_law_185 : decode b_LW_law 185 = .ok (.iload 4, 2) := by decide +kernel
theorem d_LW_law_187 : decode b_LW_law 187 = .ok (.iconst 2, 1) := by decide +kernel
theorem d_LW_law_188 : decode b_LW_law 188 = .ok (.iadd, 1) := by decide +kernel
theorem d_LW_law_189 : decode b_LW_law 189 = .ok (.iaload, 1) := by decide +kernel
theorem d_LW_law_190 : decode b_LW_law 190 = .ok (.aload_n 0, 1) := by decide +kernel
theorem d_LW_law_191 : decode b_LW_law 191 = .ok (.iload 4, 2) := by decide +kernel
theorem d_LW_law_193 : decode b_LW_law 193 = .ok (.iconst 3, 1) := by decide +kernel
theorem d_LW_law_194 : decode b_LW_law 194 = .ok (.iadd, 1) := by decide +kernel
theorem d_LW_law_195 : decode b_LW_law 195 = .ok (.iaload, 1) := by decide +kernel
theorem d_LW_law_196 : decode b_LW_law 196 = .ok (.invokevirtual 67, 3) := by decide +kernel
theorem d_LW_law_199 : decode b_LW_law 199 = .ok (.istore 6, 2) := by decide +kernel
theorem d_LW_law_201 : decode b_LW_law 201 = .ok (.aload_n 2, 1) := by decide +kernel
theorem d_LW_law_202 : decode b_LW_law 202 = .ok (.invokevirtual 61, 3) := by decide +kernel
theorem d_LW_law_205 : decode b_LW_law 205 = .ok (.iload 5, 2) := by decide +kernel
theorem d_LW_law_207 : decode b_LW_law 207 = .ok (.if_icmp .eq 5, 3) := by decide +kernel
theorem d_LW_law_210 : decode b_LW_law 210 = .ok (.iconst 0, 1) := by decide +kernel
theorem d_LW_law_211 : decode b_LW_law 211 = .ok (.ireturn, 1) := by decide +kernel
theorem d_LW_law_212 : decode b_LW_law 212 = .ok (.iload 5, 2) := by decide +kernel
theorem d_LW_law_214 : decode b_LW_law 214 = .ok (.ifCond .ne 22, 3) := by decide +kernel
theorem d_LW_law_217 : decode b_LW_law 217 = .ok (.aload_n 3, 1) := by decide +kernel
theorem d_LW_law_218 : decode b_LW_law 218 = .ok (.iconst 0, 1) := by decide +kernel
theorem d_LW_law_219 : decode b_LW_law 219 = .ok (.laload, 1) := by decide +kernel
theorem d_LW_law_220 : decode b_LW_law 220 = .ok (.iload 6, 2) := by decide +kernel
theorem d_LW_law_222 : decode b_LW_law 222 = .ok (.ifCond .eq 7, 3) := by decide +kernel
theorem d_LW_law_225 : decode b_LW_law 225 = .ok (.lconst 1, 1) := by decide +kernel
theorem d_LW_law_226 : decode b_LW_law 226 = .ok (.goto 4, 3) := by decide +kernel
theorem d_LW_law_229 : decode b_LW_law 229 = .ok (.lconst 0, 1) := by decide +kernel
theorem d_LW_law_230 : decode b_LW_law 230 = .ok (.lcmp, 1) := by decide +kernel
theorem d_LW_law_231 : decode b_LW_law 231 = .ok (.ifCond .eq 5, 3) := by decide +kernel
theorem d_LW_law_234 : decode b_LW_law 234 = .ok (.iconst 0, 1) := by decide +kernel
theorem d_LW_law_235 : decode b_LW_law 235 = .ok (.ireturn, 1) := by decide +kernel
theorem d_LW_law_236 : decode b_LW_law 236 = .ok (.goto 610, 3) := by decide +kernel
theorem d_LW_law_239 : decode b_LW_law 239 = .ok (.aload_n 1, 1) := by decide +kernel
theorem d_LW_law_240 : decode b_LW_law 240 = .ok (.aload_n 0, 1) := by decide +kernel
theorem d_LW_law_241 : decode b_LW_law 241 = .ok (.iload 4, 2) := by decide +kernel
theorem d_LW_law_243 : decode b_LW_law 243 = .ok (.iconst 1, 1) := by decide +kernel
theorem d_LW_law_244 : decode b_LW_law 244 = .ok (.iadd, 1) := by decide +kernel
theorem d_LW_law_245 : decode b_LW_law 245 = .ok (.iaload, 1) := by decide +kernel
theorem d_LW_law_246 : decode b_LW_law 246 = .ok (.aload_n 0, 1) := by decide +kernel
theorem d_LW_law_247 : decode b_LW_law 247 = .ok (.iload 4, 2) := by decide +kernel
theorem d_LW_law_249 : decode b_LW_law 249 = .ok (.iconst 2, 1) := by decide +kernel
theorem d_LW_law_250 : decode b_LW_law 250 = .ok (.iadd, 1) := by decide +kernel
theorem d_LW_law_251 : decode b_LW_law 251 = .ok (.iaload, 1) := by decide +kernel
theorem d_LW_law_252 : decode b_LW_law 252 = .ok (.aload_n 3, 1) := by decide +kernel
theorem d_LW_law_253 : decode b_LW_law 253 = .ok (.invokestatic 68, 3) := by decide +kernel
theorem d_LW_law_256 : decode b_LW_law 256 = .ok (.istore 5, 2) := by decide +kernel
theorem d_LW_law_258 : decode b_LW_law 258 = .ok (.aload_n 2, 1) := by decide +kernel
theorem d_LW_law_259 : decode b_LW_law 259 = .ok (.aload_n 0, 1) := by decide +kernel
theorem d_LW_law_260 : decode b_LW_law 260 = .ok (.iload 4, 2) := by decide +kernel
theorem d_LW_law_262 : decode b_LW_law 262 = .ok (.iconst 1, 1) := by decide +kernel
theorem d_LW_law_263 : decode b_LW_law 263 = .ok (.iadd, 1) := by decide +kernel
theorem d_LW_law_264 : decode b_LW_law 264 = .ok (.iaload, 1) := by decide +kernel
theorem d_LW_law_265 : decode b_LW_law 265 = .ok (.aload_n 0, 1) := by decide +kernel
theorem d_LW_law_266 : decode b_LW_law 266 = .ok (.iload 4, 2) := by decide +kernel
theorem d_LW_law_268 : decode b_LW_law 268 = .ok (.iconst 2, 1) := by decide +kernel
theorem d_LW_law_269 : decode b_LW_law 269 = .ok (.iadd, 1) := by decide +kernel
theorem d_LW_law_270 : decode b_LW_law 270 = .ok (.iaload, 1) := by decide +kernel
theorem d_LW_law_271 : decode b_LW_law 271 = .ok (.invokevirtual 71, 3) := by decide +kernel
theorem d_LW_law_274 : decode b_LW_law 274 = .ok (.istore 6, 2) := by decide +kernel
theorem d_LW_law_276 : decode b_LW_law 276 = .ok (.aload_n 2, 1) := by decide +kernel
theorem d_LW_law_277 : decode b_LW_law 277 = .ok (.invokevirtual 61, 3) := by decide +kernel
theorem d_LW_law_280 : decode b_LW_law 280 = .ok (.iload 5, 2) := by decide +kernel
theorem d_LW_law_282 : decode b_LW_law 282 = .ok (.if_icmp .eq 5, 3) := by decide +kernel
theorem d_LW_law_285 : decode b_LW_law 285 = .ok (.iconst 0, 1) := by decide +kernel
theorem d_LW_law_286 : decode b_LW_law 286 = .ok (.ireturn, 1) := by decide +kernel
theorem d_LW_law_287 : decode b_LW_law 287 = .ok (.iload 5, 2) := by decide +kernel
theorem d_LW_law_289 : decode b_LW_law 289 = .ok (.ifCond .ne 15, 3) := by decide +kernel
theorem d_LW_law_292 : decode b_LW_law 292 = .ok (.aload_n 3, 1) := by decide +kernel
theorem d_LW_law_293 : decode b_LW_law 293 = .ok (.iconst 0, 1) := by decide +kernel
theorem d_LW_law_294 : decode b_LW_law 294 = .ok (.laload, 1) := by decide +kernel
theorem d_LW_law_295 : decode b_LW_law 295 = .ok (.iload 6, 2) := by decide +kernel
theorem d_LW_law_297 : decode b_LW_law 297 = .ok (.i2l, 1) := by decide +kernel
theorem d_LW_law_298 : decode b_LW_law 298 = .ok (.lcmp, 1) := by decide +kernel
theorem d_LW_law_299 : decode b_LW_law 299 = .ok (.ifCond .eq 5, 3) := by decide +kernel
theorem d_LW_law_302 : decode b_LW_law 302 = .ok (.iconst 0, 1) := by decide +kernel
theorem d_LW_law_303 : decode b_LW_law 303 = .ok (.ireturn, 1) := by decide +kernel
theorem d_LW_law_304 : decode b_LW_law 304 = .ok (.goto 542, 3) := by decide +kernel
theorem d_LW_law_307 : decode b_LW_law 307 = .ok (.aload_n 1, 1) := by decide +kernel
theorem d_LW_law_308 : decode b_LW_law 308 = .ok (.aload_n 0, 1) := by decide +kernel
theorem d_LW_law_309 : decode b_LW_law 309 = .ok (.iload 4, 2) := by decide +kernel
theorem d_LW_law_311 : decode b_LW_law 311 = .ok (.iconst 1, 1) := by decide +kernel
theorem d_LW_law_312 : decode b_LW_law 312 = .ok (.iadd, 1) := by decide +kernel
theorem d_LW_law_313 : decode b_LW_law 313 = .ok (.iaload, 1) := by decide +kernel
theorem d_LW_law_314 : decode b_LW_law 314 = .ok (.aload_n 0, 1) := by decide +kernel
theorem d_LW_law_315 : decode b_LW_law 315 = .ok (.iload 4, 2) := by decide +kernel
theorem d_LW_law_317 : decode b_LW_law 317 = .ok (.iconst 2, 1) := by decide +kernel
theorem d_LW_law_318 : decode b_LW_law 318 = .ok (.iadd, 1) := by decide +kernel
theorem d_LW_law_319 : decode b_LW_law 319 = .ok (.iaload, 1) := by decide +kernel
theorem d_LW_law_320 : decode b_LW_law 320 = .ok (.aload_n 0, 1) := by decide +kernel
theorem d_LW_law_321 : decode b_LW_law 321 = .ok (.iload 4, 2) := by decide +kernel
theorem d_LW_law_323 : decode b_LW_law 323 = .ok (.iconst 3, 1) := by decide +kernel
theorem d_LW_law_324 : decode b_LW_law 324 = .ok (.iadd, 1) := by decide +kernel
theorem d_LW_law_325 : decode b_LW_law 325 = .ok (.iaload, 1) := by decide +kernel
theorem d_LW_law_326 : decode b_LW_law 326 = .ok (.aload_n 3, 1) := by decide +kernel
theorem d_LW_law_327 : decode b_LW_law 327 = .ok (.invokestatic 72, 3) := by decide +kernel
theorem d_LW_law_330 : decode b_LW_law 330 = .ok (.istore 5, 2) := by decide +kernel
theorem d_LW_law_332 : decode b_LW_law 332 = .ok (.aload_n 2, 1) := by decide +kernel
theorem d_LW_law_333 : decode b_LW_law 333 = .ok (.aload_n 0, 1) := by decide +kernel
theorem d_LW_law_334 : decode b_LW_law 334 = .ok (.iload 4, 2) := by decide +kernel
theorem d_LW_law_336 : decode b_LW_law 336 = .ok (.iconst 1, 1) := by decide +kernel
theorem d_LW_law_337 : decode b_LW_law 337 = .ok (.iadd, 1) := by decide +kernel
theorem d_LW_law_338 : decode b_LW_law 338 = .ok (.iaload, 1) := by decide +kernel
theorem d_LW_law_339 : decode b_LW_law 339 = .ok (.aload_n 0, 1) := by decide +kernel
theorem d_LW_law_340 : decode b_LW_law 340 = .ok (.iload 4, 2) := by decide +kernel
