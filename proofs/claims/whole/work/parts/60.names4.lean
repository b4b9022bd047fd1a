abbrev zz_wH (y : MethodName) (cc : ByteArray) (n : Nat) (r : Option FieldType) (hh : List (Nat × Nat × Nat × Nat)) : List Cond := Cond.codeWith y cc n r hh :: zz_GW
theorem zz_goodH {y : MethodName} {cc : ByteArray} {n : Nat} {r : Option FieldType} {hh : List (Nat × Nat × Nat × Nat)} (h : Cond.codeWith y cc n r hh ∈ zz_GW) : GoodIn zz_GW (zz_wH y cc n r hh) := by
  intro w hw
  rcases List.mem_cons.mp hw with e | e
  · rw [e]; exact ⟨h, good_of_word (List.mem_filter.mp h).2⟩
  · exact ⟨e, good_of_word (List.mem_filter.mp e).2⟩
theorem zz_cwSW {R : Room} {s : State} {args : Array Value} {own : String} {index maxL mc ms : Nat} {y : MethodName} {bytes : ByteArray} {ret : Option FieldType} {hh : List (Nat × Nat × Nat × Nat)} {rm : Room} (n : Nat) (hts : ∀ w ∈ zz_GW, w.before args s = true) (hc : Cond.codeWith y bytes maxL ret hh ∈ zz_GW) (hl : Cond.methodLink own index y ∈ zz_GW) (hi : Cond.static y ∈ zz_GW) (hini : Cond.initialized y.cls ∈ zz_GW)
    (hd : y.cls ≠ "java/lang/invoke/MethodHandle" ∧ y.cls ≠ "java/lang/invoke/VarHandle" ∧ (parseMethodDescriptor y.desc).map (fun d => d.parameters.length) = some n) (hR : rm.frames + 1 ≤ R.frames ∧ 8 + (maxL + 11) + rm.locals ≤ R.locals) (hrc : rm.cells = mc := by rfl) (hrs : rm.slots = ms := by rfl) : vx_CSW R s args own index y bytes maxL ret hh (zz_wH y bytes maxL ret hh) rm mc ms n := by
  refine ⟨⟨hrc, hrs, hR.1, hR.2, pay_in hts (zz_goodH hc), List.mem_cons_self⟩, hts _ hc, hts _ hini, ⟨hd.1, hd.2.1⟩, fun sig h => ?_, hts _ hl, hts _ hi⟩
  have h2 := hd.2.2
  rw [h] at h2
  exact (Option.some.inj h2).symm
abbrev b_LW_element : ByteArray := method_3_code
abbrev y_LW_element : MethodName := ⟨"StructureRowsLaw", "element", "(LStructureRows;[J)I"⟩
abbrev b_LW_put : ByteArray := method_4_code
abbrev y_LW_put : MethodName := ⟨"StructureRowsLaw", "put", "(LStructureRows;III[J)I"⟩
abbrev b_LW_at : ByteArray := method_5_code
abbrev y_LW_at : MethodName := ⟨"StructureRowsLaw", "at", "(LStructureRows;II[J)I"⟩
abbrev b_LW_multiply : ByteArray := method_6_code
abbrev y_LW_multiply : MethodName := ⟨"StructureRowsLaw", "multiply", "(LStructureRows;III[J)I"⟩
abbrev b_LW_relation : ByteArray := method_7_code
abbrev y_LW_relation : MethodName := ⟨"StructureRowsLaw", "relation", "(LStructureRows;II[J)I"⟩
abbrev b_LW_group : ByteArray := method_8_code
abbrev y_LW_group : MethodName := ⟨"StructureRowsLaw", "group", "(LStructureRows;II[J)I"⟩
abbrev b_LW_hull : ByteArray := method_9_code
abbrev y_LW_hull : MethodName := ⟨"StructureRowsLaw", "hull", "(LStructureRows;II[J)I"⟩
abbrev b_LW_factor : ByteArray := method_10_code
abbrev y_LW_factor : MethodName := ⟨"StructureRowsLaw", "factor", "(LStructureRows;I[J)I"⟩
abbrev b_LW_test : ByteArray := method_11_code
abbrev y_LW_test : MethodName := ⟨"StructureRowsLaw", "test", "(LStructureRows;IIII[J)I"⟩
abbrev b_LW_times : ByteArray := method_12_code
abbrev y_LW_times : MethodName := ⟨"StructureRowsLaw", "times", "(LStructureRows;I[J)I"⟩
theorem tw_227 : (Jvm.Cond.classLink "StructureRowsLaw" (13 : Nat) "java/lang/IllegalStateException") ∈ zz_GW := zz_in 227 (by decide +kernel) (by decide +kernel)
theorem tw_228 : (Jvm.Cond.methodLink "StructureRowsLaw" (7 : Nat) ({ cls := "StructureRows", name := "element", desc := "()I" } : Jvm.MethodName)) ∈ zz_GW := zz_in 228 (by decide +kernel) (by decide +kernel)
theorem tw_229 : (Jvm.Cond.instanceMethod ({ cls := "StructureRows", name := "element", desc := "()I" } : Jvm.MethodName)) ∈ zz_GW := zz_in 229 (by decide +kernel) (by decide +kernel)
theorem tw_230 : (Jvm.Cond.selects "StructureRows" ({ cls := "StructureRows", name := "element", desc := "()I" } : Jvm.MethodName) ({ cls := "StructureRows", name := "element", desc := "()I" } : Jvm.MethodName)) ∈ zz_GW := zz_in 230 (by decide +kernel) (by decide +kernel)
theorem tw_231 : (Jvm.Cond.code ({ cls := "StructureRows", name := "element", desc := "()I" } : Jvm.MethodName) prog_1_method_2_code (2 : Nat) (Option.some Jvm.ClassFile.FieldType.int)) ∈ zz_GW := zz_in 231 (by decide +kernel) (by decide +kernel)
theorem tw_303 : (Jvm.Cond.classLink "StructureRowsLaw" (19 : Nat) "java/lang/IndexOutOfBoundsException") ∈ zz_GW := zz_in 303 (by decide +kernel) (by decide +kernel)
theorem tw_304 : (Jvm.Cond.classLink "StructureRowsLaw" (21 : Nat) "java/lang/IllegalArgumentException") ∈ zz_GW := zz_in 304 (by decide +kernel) (by decide +kernel)
theorem tw_305 : (Jvm.Cond.methodLink "StructureRowsLaw" (15 : Nat) ({ cls := "StructureRows", name := "put", desc := "(III)Z" } : Jvm.MethodName)) ∈ zz_GW := zz_in 305 (by decide +kernel) (by decide +kernel)
theorem tw_306 : (Jvm.Cond.instanceMethod ({ cls := "StructureRows", name := "put", desc := "(III)Z" } : Jvm.MethodName)) ∈ zz_GW := zz_in 306 (by decide +kernel) (by decide +kernel)
theorem tw_307 : (Jvm.Cond.selects "StructureRows" ({ cls := "StructureRows", name := "put", desc := "(III)Z" } : Jvm.MethodName) ({ cls := "StructureRows", name := "put", desc := "(III)Z" } : Jvm.MethodName)) ∈ zz_GW := zz_in 307 (by decide +kernel) (by decide +kernel)
theorem tw_308 : (Jvm.Cond.code ({ cls := "StructureRows", name := "put", desc := "(III)Z" } : Jvm.MethodName) prog_1_method_3_code (5 : Nat) (Option.some Jvm.ClassFile.FieldType.boolean)) ∈ zz_GW := zz_in 308 (by decide +kernel) (by decide +kernel)
theorem tw_360 : (Jvm.Cond.methodLink "StructureRowsLaw" (23 : Nat) ({ cls := "StructureRows", name := "at", desc := "(II)I" } : Jvm.MethodName)) ∈ zz_GW := zz_in 360 (by decide +kernel) (by decide +kernel)
theorem tw_361 : (Jvm.Cond.instanceMethod ({ cls := "StructureRows", name := "at", desc := "(II)I" } : Jvm.MethodName)) ∈ zz_GW := zz_in 361 (by decide +kernel) (by decide +kernel)
theorem tw_362 : (Jvm.Cond.selects "StructureRows" ({ cls := "StructureRows", name := "at", desc := "(II)I" } : Jvm.MethodName) ({ cls := "StructureRows", name := "at", desc := "(II)I" } : Jvm.MethodName)) ∈ zz_GW := zz_in 362 (by decide +kernel) (by decide +kernel)
theorem tw_363 : (Jvm.Cond.code ({ cls := "StructureRows", name := "at", desc := "(II)I" } : Jvm.MethodName) prog_1_method_4_code (3 : Nat) (Option.some Jvm.ClassFile.FieldType.int)) ∈ zz_GW := zz_in 363 (by decide +kernel) (by decide +kernel)
theorem tw_367 : (Jvm.Cond.methodLink "StructureRowsLaw" (27 : Nat) ({ cls := "StructureRows", name := "multiply", desc := "(III)Z" } : Jvm.MethodName)) ∈ zz_GW := zz_in 367 (by decide +kernel) (by decide +kernel)
theorem tw_368 : (Jvm.Cond.instanceMethod ({ cls := "StructureRows", name := "multiply", desc := "(III)Z" } : Jvm.MethodName)) ∈ zz_GW := zz_in 368 (by decide +kernel) (by decide +kernel)
theorem tw_369 : (Jvm.Cond.selects "StructureRows" ({ cls := "StructureRows", name := "multiply", desc := "(III)Z" } : Jvm.MethodName) ({ cls := "StructureRows", name := "multiply", desc := "(III)Z" } : Jvm.MethodName)) ∈ zz_GW := zz_in 369 (by decide +kernel) (by decide +kernel)
theorem tw_370 : (Jvm.Cond.code ({ cls := "StructureRows", name := "multiply", desc := "(III)Z" } : Jvm.MethodName) prog_1_method_5_code (7 : Nat) (Option.some Jvm.ClassFile.FieldType.boolean)) ∈ zz_GW := zz_in 370 (by decide +kernel) (by decide +kernel)
theorem tw_375 : (Jvm.Cond.methodLink "StructureRowsLaw" (30 : Nat) ({ cls := "StructureRows", name := "relation", desc := "(II)J" } : Jvm.MethodName)) ∈ zz_GW := zz_in 375 (by decide +kernel) (by decide +kernel)
theorem tw_376 : (Jvm.Cond.instanceMethod ({ cls := "StructureRows", name := "relation", desc := "(II)J" } : Jvm.MethodName)) ∈ zz_GW := zz_in 376 (by decide +kernel) (by decide +kernel)
theorem tw_377 : (Jvm.Cond.selects "StructureRows" ({ cls := "StructureRows", name := "relation", desc := "(II)J" } : Jvm.MethodName) ({ cls := "StructureRows", name := "relation", desc := "(II)J" } : Jvm.MethodName)) ∈ zz_GW := zz_in 377 (by decide +kernel) (by decide +kernel)
theorem tw_378 : (Jvm.Cond.code ({ cls := "StructureRows", name := "relation", desc := "(II)J" } : Jvm.MethodName) prog_1_method_8_code (3 : Nat) (Option.some Jvm.ClassFile.FieldType.long)) ∈ zz_GW := zz_in 378 (by decide +kernel) (by decide +kernel)
theorem tw_382 : (Jvm.Cond.methodLink "StructureRowsLaw" (34 : Nat) ({ cls := "StructureRows", name := "group", desc := "(II)J" } : Jvm.MethodName)) ∈ zz_GW := zz_in 382 (by decide +kernel) (by decide +kernel)
theorem tw_383 : (Jvm.Cond.instanceMethod ({ cls := "StructureRows", name := "group", desc := "(II)J" } : Jvm.MethodName)) ∈ zz_GW := zz_in 383 (by decide +kernel) (by decide +kernel)
theorem tw_384 : (Jvm.Cond.selects "StructureRows" ({ cls := "StructureRows", name := "group", desc := "(II)J" } : Jvm.MethodName) ({ cls := "StructureRows", name := "group", desc := "(II)J" } : Jvm.MethodName)) ∈ zz_GW := zz_in 384 (by decide +kernel) (by decide +kernel)
theorem tw_385 : (Jvm.Cond.code ({ cls := "StructureRows", name := "group", desc := "(II)J" } : Jvm.MethodName) prog_1_method_9_code (3 : Nat) (Option.some Jvm.ClassFile.FieldType.long)) ∈ zz_GW := zz_in 385 (by decide +kernel) (by decide +kernel)
theorem tw_393 : (Jvm.Cond.methodLink "StructureRowsLaw" (37 : Nat) ({ cls := "StructureRows", name := "hull", desc := "(II)J" } : Jvm.MethodName)) ∈ zz_GW := zz_in 393 (by decide +kernel) (by decide +kernel)
theorem tw_394 : (Jvm.Cond.instanceMethod ({ cls := "StructureRows", name := "hull", desc := "(II)J" } : Jvm.MethodName)) ∈ zz_GW := zz_in 394 (by decide +kernel) (by decide +kernel)
theorem tw_395 : (Jvm.Cond.selects "StructureRows" ({ cls := "StructureRows", name := "hull", desc := "(II)J" } : Jvm.MethodName) ({ cls := "StructureRows", name := "hull", desc := "(II)J" } : Jvm.MethodName)) ∈ zz_GW := zz_in 395 (by decide +kernel) (by decide +kernel)
theorem tw_396 : (Jvm.Cond.code ({ cls := "StructureRows", name := "hull", desc := "(II)J" } : Jvm.MethodName) prog_1_method_10_code (3 : Nat) (Option.some Jvm.ClassFile.FieldType.long)) ∈ zz_GW := zz_in 396 (by decide +kernel) (by decide +kernel)
theorem tw_400 : (Jvm.Cond.methodLink "StructureRowsLaw" (40 : Nat) ({ cls := "StructureRows", name := "factor", desc := "(I)J" } : Jvm.MethodName)) ∈ zz_GW := zz_in 400 (by decide +kernel) (by decide +kernel)
theorem tw_401 : (Jvm.Cond.instanceMethod ({ cls := "StructureRows", name := "factor", desc := "(I)J" } : Jvm.MethodName)) ∈ zz_GW := zz_in 401 (by decide +kernel) (by decide +kernel)
theorem tw_402 : (Jvm.Cond.selects "StructureRows" ({ cls := "StructureRows", name := "factor", desc := "(I)J" } : Jvm.MethodName) ({ cls := "StructureRows", name := "factor", desc := "(I)J" } : Jvm.MethodName)) ∈ zz_GW := zz_in 402 (by decide +kernel) (by decide +kernel)
theorem tw_403 : (Jvm.Cond.code ({ cls := "StructureRows", name := "factor", desc := "(I)J" } : Jvm.MethodName) prog_1_method_11_code (4 : Nat) (Option.some Jvm.ClassFile.FieldType.long)) ∈ zz_GW := zz_in 403 (by decide +kernel) (by decide +kernel)
theorem tw_431 : (Jvm.Cond.methodLink "StructureRowsLaw" (44 : Nat) ({ cls := "StructureRows", name := "test", desc := "(IIII)J" } : Jvm.MethodName)) ∈ zz_GW := zz_in 431 (by decide +kernel) (by decide +kernel)
theorem tw_432 : (Jvm.Cond.instanceMethod ({ cls := "StructureRows", name := "test", desc := "(IIII)J" } : Jvm.MethodName)) ∈ zz_GW := zz_in 432 (by decide +kernel) (by decide +kernel)
theorem tw_433 : (Jvm.Cond.selects "StructureRows" ({ cls := "StructureRows", name := "test", desc := "(IIII)J" } : Jvm.MethodName) ({ cls := "StructureRows", name := "test", desc := "(IIII)J" } : Jvm.MethodName)) ∈ zz_GW := zz_in 433 (by decide +kernel) (by decide +kernel)
theorem tw_434 : (Jvm.Cond.code ({ cls := "StructureRows", name := "test", desc := "(IIII)J" } : Jvm.MethodName) prog_1_method_12_code (5 : Nat) (Option.some Jvm.ClassFile.FieldType.long)) ∈ zz_GW := zz_in 434 (by decide +kernel) (by decide +kernel)
theorem tw_464 : (Jvm.Cond.methodLink "StructureRowsLaw" (48 : Nat) ({ cls := "StructureRows", name := "times", desc := "(I)J" } : Jvm.MethodName)) ∈ zz_GW := zz_in 464 (by decide +kernel) (by decide +kernel)
theorem tw_465 : (Jvm.Cond.instanceMethod ({ cls := "StructureRows", name := "times", desc := "(I)J" } : Jvm.MethodName)) ∈ zz_GW := zz_in 465 (by decide +kernel) (by decide +kernel)
theorem tw_466 : (Jvm.Cond.selects "StructureRows" ({ cls := "StructureRows", name := "times", desc := "(I)J" } : Jvm.MethodName) ({ cls := "StructureRows", name := "times", desc := "(I)J" } : Jvm.MethodName)) ∈ zz_GW := zz_in 466 (by decide +kernel) (by decide +kernel)
theorem tw_467 : (Jvm.Cond.code ({ cls := "StructureRows", name := "times", desc := "(I)J" } : Jvm.MethodName) prog_1_method_13_code (2 : Nat) (Option.some Jvm.ClassFile.FieldType.long)) ∈ zz_GW := zz_in 467 (by decide +kernel) (by decide +kernel)
theorem d_LW_element_0 : decode b_LW_element 0 = .ok (.aload_n 1, 1) := by decide +kernel
theorem d_LW_element_1 : decode b_LW_element 1 = .ok (.iconst 0, 1) := by decide +kernel
theorem d_LW_element_2 : decode b_LW_element 2 = .ok (.aload_n 0, 1) := by decide +kernel
theorem d_LW_element_3 : decode b_LW_element 3 = .ok (.invokevirtual 7, 3) := by decide +kernel
theorem d_LW_element_6 : decode b_LW_element 6 = .ok (.i2l, 1) := by decide +kernel
theorem d_LW_element_7 : decode b_LW_element 7 = .ok (.lastore, 1) := by decide +kernel
theorem d_LW_element_8 : decode b_LW_element 8 = .ok (.goto 6, 3) := by decide +kernel
theorem d_LW_element_11 : decode b_LW_element 11 = .ok (.astore_n 2, 1) := by decide +kernel
theorem d_LW_element_12 : decode b_LW_element 12 = .ok (.iconst 1, 1) := by decide +kernel
theorem d_LW_element_13 : decode b_LW_element 13 = .ok (.ireturn, 1) := by decide +kernel
theorem d_LW_element_14 : decode b_LW_element 14 = .ok (.iconst 0, 1) := by decide +kernel
theorem d_LW_element_15 : decode b_LW_element 15 = .ok (.ireturn, 1) := by decide +kernel
theorem d_LW_put_0 : decode b_LW_put 0 = .ok (.aload 4, 2) := by decide +kernel
theorem d_LW_put_2 : decode b_LW_put 2 = .ok (.iconst 0, 1) := by decide +kernel
theorem d_LW_put_3 : decode b_LW_put 3 = .ok (.aload_n 0, 1) := by decide +kernel
theorem d_LW_put_4 : decode b_LW_put 4 = .ok (.iload_n 1, 1) := by decide +kernel
theorem d_LW_put_5 : decode b_LW_put 5 = .ok (.iload_n 2, 1) := by decide +kernel
theorem d_LW_put_6 : decode b_LW_put 6 = .ok (.iload_n 3, 1) := by decide +kernel
theorem d_LW_put_7 : decode b_LW_put 7 = .ok (.invokevirtual 15, 3) := by decide +kernel
theorem d_LW_put_10 : decode b_LW_put 10 = .ok (.ifCond .eq 7, 3) := by decide +kernel
theorem d_LW_put_13 : decode b_LW_put 13 = .ok (.lconst 1, 1) := by decide +kernel
theorem d_LW_put_14 : decode b_LW_put 14 = .ok (.goto 4, 3) := by decide +kernel
theorem d_LW_put_17 : decode b_LW_put 17 = .ok (.lconst 0, 1) := by decide +kernel
theorem d_LW_put_18 : decode b_LW_put 18 = .ok (.lastore, 1) := by decide +kernel
theorem d_LW_put_19 : decode b_LW_put 19 = .ok (.goto 11, 3) := by decide +kernel
theorem d_LW_put_22 : decode b_LW_put 22 = .ok (.astore 5, 2) := by decide +kernel
theorem d_LW_put_24 : decode b_LW_put 24 = .ok (.iconst 1, 1) := by decide +kernel
theorem d_LW_put_25 : decode b_LW_put 25 = .ok (.ireturn, 1) := by decide +kernel
theorem d_LW_put_26 : decode b_LW_put 26 = .ok (.astore 5, 2) := by decide +kernel
theorem d_LW_put_28 : decode b_LW_put 28 = .ok (.iconst 2, 1) := by decide +kernel
theorem d_LW_put_29 : decode b_LW_put 29 = .ok (.ireturn, 1) := by decide +kernel
theorem d_LW_put_30 : decode b_LW_put 30 = .ok (.iconst 0, 1) := by decide +kernel
theorem d_LW_put_31 : decode b_LW_put 31 = .ok (.ireturn, 1) := by decide +kernel
theorem d_LW_at_0 : decode b_LW_at 0 = .ok (.aload_n 3, 1) := by decide +kernel
theorem d_LW_at_1 : decode b_LW_at 1 = .ok (.iconst 0, 1) := by decide +kernel
theorem d_LW_at_2 : decode b_LW_at 2 = .ok (.aload_n 0, 1) := by decide +kernel
theorem d_LW_at_3 : decode b_LW_at 3 = .ok (.iload_n 1, 1) := by decide +kernel
theorem d_LW_at_4 : decode b_LW_at 4 = .ok (.iload_n 2, 1) := by decide +kernel
theorem d_LW_at_5 : decode b_LW_at 5 = .ok (.invokevirtual 23, 3) := by decide +kernel
theorem d_LW_at_8 : decode b_LW_at 8 = .ok (.i2l, 1) := by decide +kernel
theorem d_LW_at_9 : decode b_LW_at 9 = .ok (.lastore, 1) := by decide +kernel
theorem d_LW_at_10 : decode b_LW_at 10 = .ok (.goto 7, 3) := by decide +kernel
theorem d_LW_at_13 : decode b_LW_at 13 = .ok (.astore 4, 2) := by decide +kernel
theorem d_LW_at_15 : decode b_LW_at 15 = .ok (.iconst 1, 1) := by decide +kernel
theorem d_LW_at_16 : decode b_LW_at 16 = .ok (.ireturn, 1) := by decide +kernel
theorem d_LW_at_17 : decode b_LW_at 17 = .ok (.iconst 0, 1) := by decide +kernel
theorem d_LW_at_18 : decode b_LW_at 18 = .ok (.ireturn, 1) := by decide +kernel
theorem d_LW_multiply_0 : decode b_LW_multiply 0 = .ok (.aload 4, 2) := by decide +kernel
theorem d_LW_multiply_2 : decode b_LW_multiply 2 = .ok (.iconst 0, 1) := by decide +kernel
theorem d_LW_multiply_3 : decode b_LW_multiply 3 = .ok (.aload_n 0, 1) := by decide +kernel
theorem d_LW_multiply_4 : decode b_LW_multiply 4 = .ok (.iload_n 1, 1) := by decide +kernel
theorem d_LW_multiply_5 : decode b_LW_multiply 5 = .ok (.iload_n 2, 1) := by decide +kernel
theorem d_LW_multiply_6 : decode b_LW_multiply 6 = .ok (.iload_n 3, 1) := by decide +kernel
theorem d_LW_multiply_7 : decode b_LW_multiply 7 = .ok (.invokevirtual 27, 3) := by decide +kernel
theorem d_LW_multiply_10 : decode b_LW_multiply 10 = .ok (.ifCond .eq 7, 3) := by decide +kernel
theorem d_LW_multiply_13 : decode b_LW_multiply 13 = .ok (.lconst 1, 1) := by decide +kernel
theorem d_LW_multiply_14 : decode b_LW_multiply 14 = .ok (.goto 4, 3) := by decide +kernel
theorem d_LW_multiply_17 : decode b_LW_multiply 17 = .ok (.lconst 0, 1) := by decide +kernel
theorem d_LW_multiply_18 : decode b_LW_multiply 18 = .ok (.lastore, 1) := by decide +kernel
theorem d_LW_multiply_19 : decode b_LW_multiply 19 = .ok (.goto 11, 3) := by decide +kernel
theorem d_LW_multiply_22 : decode b_LW_multiply 22 = .ok (.astore 5, 2) := by decide +kernel
theorem d_LW_multiply_24 : decode b_LW_multiply 24 = .ok (.iconst 1, 1) := by decide +kernel
theorem d_LW_multiply_25 : decode b_LW_multiply 25 = .ok (.ireturn, 1) := by decide +kernel
theorem d_LW_multiply_26 : decode b_LW_multiply 26 = .ok (.astore 5, 2) := by decide +kernel
theorem d_LW_multiply_28 : decode b_LW_multiply 28 = .ok (.iconst 2, 1) := by decide +kernel
theorem d_LW_multiply_29 : decode b_LW_multiply 29 = .ok (.ireturn, 1) := by decide +kernel
theorem d_LW_multiply_30 : decode b_LW_multiply 30 = .ok (.iconst 0, 1) := by decide +kernel
theorem d_LW_multiply_31 : decode b_LW_multiply 31 = .ok (.ireturn, 1) := by decide +kernel
theorem d_LW_relation_0 : decode b_LW_relation 0 = .ok (.aload_n 3, 1) := by decide +kernel
theorem d_LW_relation_1 : decode b_LW_relation 1 = .ok (.iconst 0, 1) := by decide +kernel
theorem d_LW_relation_2 : decode b_LW_relation 2 = .ok (.aload_n 0, 1) := by decide +kernel
theorem d_LW_relation_3 : decode b_LW_relation 3 = .ok (.iload_n 1, 1) := by decide +kernel
theorem d_LW_relation_4 : decode b_LW_relation 4 = .ok (.iload_n 2, 1) := by decide +kernel
theorem d_LW_relation_5 : decode b_LW_relation 5 = .ok (.invokevirtual 30, 3) := by decide +kernel
theorem d_LW_relation_8 : decode b_LW_relation 8 = .ok (.lastore, 1) := by decide +kernel
theorem d_LW_relation_9 : decode b_LW_relation 9 = .ok (.goto 7, 3) := by decide +kernel
theorem d_LW_relation_12 : decode b_LW_relation 12 = .ok (.astore 4, 2) := by decide +kernel
theorem d_LW_relation_14 : decode b_LW_relation 14 = .ok (.iconst 1, 1) := by decide +kernel
theorem d_LW_relation_15 : decode b_LW_relation 15 = .ok (.ireturn, 1) := by decide +kernel
theorem d_LW_relation_16 : decode b_LW_relation 16 = .ok (.iconst 0, 1) := by decide +kernel
theorem d_LW_relation_17 : decode b_LW_relation 17 = .ok (.ireturn, 1) := by decide +kernel
theorem d_LW_group_0 : decode b_LW_group 0 = .ok (.aload_n 3, 1) := by decide +kernel
theorem d_LW_group_1 : decode b_LW_group 1 = .ok (.iconst 0, 1) := by decide +kernel
theorem d_LW_group_2 : decode b_LW_group 2 = .ok (.aload_n 0, 1) := by decide +kernel
theorem d_LW_group_3 : decode b_LW_group 3 = .ok (.iload_n 1, 1) := by decide +kernel
theorem d_LW_group_4 : decode b_LW_group 4 = .ok (.iload_n 2, 1) := by decide +kernel
theorem d_LW_group_5 : decode b_LW_group 5 = .ok (.invokevirtual 34, 3) := by decide +kernel
theorem d_LW_group_8 : decode b_LW_group 8 = .ok (.lastore, 1) := by decide +kernel
theorem d_LW_group_9 : decode b_LW_group 9 = .ok (.goto 7, 3) := by decide +kernel
theorem d_LW_group_12 : decode b_LW_group 12 = .ok (.astore 4, 2) := by decide +kernel
theorem d_LW_group_14 : decode b_LW_group 14 = .ok (.iconst 1, 1) := by decide +kernel
theorem d_LW_group_15 : decode b_LW_group 15 = .ok (.ireturn, 1) := by decide +kernel
theorem d_LW_group_16 : decode b_LW_group 16 = .ok (.iconst 0, 1) := by decide +kernel
theorem d_LW_group_17 : decode b_LW_group 17 = .ok (.ireturn, 1) := by decide +kernel
theorem d_LW_hull_0 : decode b_LW_hull 0 = .ok (.aload_n 3, 1) := by decide +kernel
theorem d_LW_hull_1 : decode b_LW_hull 1 = .ok (.iconst 0, 1) := by decide +kernel
theorem d_LW_hull_2 : decode b_LW_hull 2 = .ok (.aload_n 0, 1) := by decide +kernel
theorem d_LW_hull_3 : decode b_LW_hull 3 = .ok (.iload_n 1, 1) := by decide +kernel
theorem d_LW_hull_4 : decode b_LW_hull 4 = .ok (.iload_n 2, 1) := by decide +kernel
theorem d_LW_hull_5 : decode b_LW_hull 5 = .ok (.invokevirtual 37, 3) := by decide +kernel
theorem d_LW_hull_8 : decode b_LW_hull 8 = .ok (.lastore, 1) := by decide +kernel
theorem d_LW_hull_9 : decode b_LW_hull 9 = .ok (.goto 7, 3) := by decide +kernel
theorem d_LW_hull_12 : decode b_LW_hull 12 = .ok (.astore 4, 2) := by decide +kernel
theorem d_LW_hull_14 : decode b_LW_hull 14 = .ok (.iconst 1, 1) := by decide +kernel
theorem d_LW_hull_15 : decode b_LW_hull 15 = .ok (.ireturn, 1) := by decide +kernel
theorem d_LW_hull_16 : decode b_LW_hull 16 = .ok (.iconst 0, 1) := by decide +kernel
theorem d_LW_hull_17 : decode b_LW_hull 17 = .ok (.ireturn, 1) := by decide +kernel
theorem d_LW_factor_0 : decode b_LW_factor 0 = .ok (.aload_n 2, 1) := by decide +kernel
theorem d_LW_factor_1 : decode b_LW_factor 1 = .ok (.iconst 0, 1) := by decide +kernel
theorem d_LW_factor_2 : decode b_LW_factor 2 = .ok (.aload_n 0, 1) := by decide +kernel
theorem d_LW_factor_3 : decode b_LW_factor 3 = .ok (.iload_n 1, 1) := by decide +kernel
theorem d_LW_factor_4 : decode b_LW_factor 4 = .ok (.invokevirtual 40, 3) := by decide +kernel
theorem d_LW_factor_7 : decode b_LW_factor 7 = .ok (.lastore, 1) := by decide +kernel
theorem d_LW_factor_8 : decode b_LW_factor 8 = .ok (.goto 6, 3) := by decide +kernel
theorem d_LW_factor_11 : decode b_LW_factor 11 = .ok (.astore_n 3, 1) := by decide +kernel
theorem d_LW_factor_12 : decode b_LW_factor 12 = .ok (.iconst 1, 1) := by decide +kernel
theorem d_LW_factor_13 : decode b_LW_factor 13 = .ok (.ireturn, 1) := by decide +kernel
theorem d_LW_factor_14 : decode b_LW_factor 14 = .ok (.iconst 0, 1) := by decide +kernel
theorem d_LW_factor_15 : decode b_LW_factor 15 = .ok (.ireturn, 1) := by decide +kernel
theorem d_LW_test_0 : decode b_LW_test 0 = .ok (.aload 5, 2) := by decide +kernel
theorem d_LW_test_2 : decode b_LW_test 2 = .ok (.iconst 0, 1) := by decide +kernel
theorem d_LW_test_3 : decode b_LW_test 3 = .ok (.aload_n 0, 1) := by decide +kernel
theorem d_LW_test_4 : decode b_LW_test 4 = .ok (.iload_n 1, 1) := by decide +kernel
theorem d_LW_test_5 : decode b_LW_test 5 = .ok (.iload_n 2, 1) := by decide +kernel
theorem d_LW_test_6 : decode b_LW_test 6 = .ok (.iload_n 3, 1) := by decide +kernel
theorem d_LW_test_7 : decode b_LW_test 7 = .ok (.iload 4, 2) := by decide +kernel
theorem d_LW_test_9 : decode b_LW_test 9 = .ok (.invokevirtual 44, 3) := by decide +kernel
theorem d_LW_test_12 : decode b_LW_test 12 = .ok (.lastore, 1) := by decide +kernel
theorem d_LW_test_13 : decode b_LW_test 13 = .ok (.goto 7, 3) := by decide +kernel
theorem d_LW_test_16 : decode b_LW_test 16 = .ok (.astore 6, 2) := by decide +kernel
theorem d_LW_test_18 : decode b_LW_test 18 = .ok (.iconst 1, 1) := by decide +kernel
theorem d_LW_test_19 : decode b_LW_test 19 = .ok (.ireturn, 1) := by decide +kernel
theorem d_LW_test_20 : decode b_LW_test 20 = .ok (.iconst 0, 1) := by decide +kernel
theorem d_LW_test_21 : decode b_LW_test 21 = .ok (.ireturn, 1) := by decide +kernel
theorem d_LW_times_0 : decode b_LW_times 0 = .ok (.aload_n 2, 1) := by decide +kernel
theorem d_LW_times_1 : decode b_LW_times 1 = .ok (.iconst 0, 1) := by decide +kernel
theorem d_LW_times_2 : decode b_LW_times 2 = .ok (.aload_n 0, 1) := by decide +kernel
theorem d_LW_times_3 : decode b_LW_times 3 = .ok (.iload_n 1, 1) := by decide +kernel
theorem d_LW_times_4 : decode b_LW_times 4 = .ok (.invokevirtual 48, 3) := by decide +kernel
theorem d_LW_times_7 : decode b_LW_times 7 = .ok (.lastore, 1) := by decide +kernel
theorem d_LW_times_8 : decode b_LW_times 8 = .ok (.goto 9, 3) := by decide +kernel
theorem d_LW_times_11 : decode b_LW_times 11 = .ok (.astore_n 3, 1) := by decide +kernel
theorem d_LW_times_12 : decode b_LW_times 12 = .ok (.iconst 1, 1) := by decide +kernel
theorem d_LW_times_13 : decode b_LW_times 13 = .ok (.ireturn, 1) := by decide +kernel
theorem d_LW_times_14 : decode b_LW_times 14 = .ok (.astore_n 3, 1) := by decide +kernel
theorem d_LW_times_15 : decode b_LW_times 15 = .ok (.iconst 2, 1) := by decide +kernel
theorem d_LW_times_16 : decode b_LW_times 16 = .ok (.ireturn, 1) := by decide +kernel
theorem d_LW_times_17 : decode b_LW_times 17 = .ok (.iconst 0, 1) := by decide +kernel
theorem d_LW_times_18 : decode b_LW_times 18 = .ok (.ireturn, 1) := by decide +kernel
