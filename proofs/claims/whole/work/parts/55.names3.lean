abbrev b_RD_init : ByteArray := prog_4_method_1_code
abbrev y_RD_init : MethodName := ⟨"StructureRows$Reduction", "<init>", "()V"⟩
abbrev b_MN_init : ByteArray := prog_2_method_1_code
abbrev y_MN_init : MethodName := ⟨"StructureRows$Minors", "<init>", "()V"⟩
abbrev b_PW_init : ByteArray := prog_3_method_1_code
abbrev y_PW_init : MethodName := ⟨"StructureRows$Power", "<init>", "()V"⟩
abbrev b_SR_init : ByteArray := prog_1_method_1_code
abbrev y_SR_init : MethodName := ⟨"StructureRows", "<init>", "()V"⟩
abbrev b_MD_init : ByteArray := prog_6_method_1_code
abbrev y_MD_init : MethodName := ⟨"StructureRowsModel", "<init>", "()V"⟩
theorem tw_49 : (Jvm.Cond.methodLink "StructureRows" (1 : Nat) ({ cls := "java/lang/Object", name := "<init>", desc := "()V" } : Jvm.MethodName)) ∈ zz_GW := zz_in 49 (by decide +kernel) (by decide +kernel)
theorem tw_50 : (Jvm.Cond.instanceMethod ({ cls := "java/lang/Object", name := "<init>", desc := "()V" } : Jvm.MethodName)) ∈ zz_GW := zz_in 50 (by decide +kernel) (by decide +kernel)
theorem tw_51 : (Jvm.Cond.code ({ cls := "java/lang/Object", name := "<init>", desc := "()V" } : Jvm.MethodName) object_method_1_code (1 : Nat) (Option.none : Option Jvm.ClassFile.FieldType)) ∈ zz_GW := zz_in 51 (by decide +kernel) (by decide +kernel)
theorem tw_52 : (Jvm.Cond.classLink "StructureRows" (13 : Nat) "StructureRows$Reduction") ∈ zz_GW := zz_in 52 (by decide +kernel) (by decide +kernel)
theorem tw_53 : (Jvm.Cond.instantiable "StructureRows$Reduction" (5 : Nat)) ∈ zz_GW := zz_in 53 (by decide +kernel) (by decide +kernel)
theorem tw_54 : (Jvm.Cond.methodLink "StructureRows" (15 : Nat) ({ cls := "StructureRows$Reduction", name := "<init>", desc := "()V" } : Jvm.MethodName)) ∈ zz_GW := zz_in 54 (by decide +kernel) (by decide +kernel)
theorem tw_55 : (Jvm.Cond.instanceMethod ({ cls := "StructureRows$Reduction", name := "<init>", desc := "()V" } : Jvm.MethodName)) ∈ zz_GW := zz_in 55 (by decide +kernel) (by decide +kernel)
theorem tw_56 : (Jvm.Cond.code ({ cls := "StructureRows$Reduction", name := "<init>", desc := "()V" } : Jvm.MethodName) prog_4_method_1_code (1 : Nat) (Option.none : Option Jvm.ClassFile.FieldType)) ∈ zz_GW := zz_in 56 (by decide +kernel) (by decide +kernel)
theorem tw_57 : (Jvm.Cond.methodLink "StructureRows$Reduction" (3 : Nat) ({ cls := "java/lang/Object", name := "<init>", desc := "()V" } : Jvm.MethodName)) ∈ zz_GW := zz_in 57 (by decide +kernel) (by decide +kernel)
theorem tw_74 : (Jvm.Cond.arrayClass Jvm.ClassFile.FieldType.int) ∈ zz_GW := zz_in 74 (by decide +kernel) (by decide +kernel)
theorem tw_75 : (Jvm.Cond.arrayClass Jvm.ClassFile.FieldType.long) ∈ zz_GW := zz_in 75 (by decide +kernel) (by decide +kernel)
theorem tw_76 : (Jvm.Cond.classLink "StructureRows" (26 : Nat) "StructureRows$Minors") ∈ zz_GW := zz_in 76 (by decide +kernel) (by decide +kernel)
theorem tw_77 : (Jvm.Cond.instantiable "StructureRows$Minors" (2 : Nat)) ∈ zz_GW := zz_in 77 (by decide +kernel) (by decide +kernel)
theorem tw_78 : (Jvm.Cond.methodLink "StructureRows" (28 : Nat) ({ cls := "StructureRows$Minors", name := "<init>", desc := "()V" } : Jvm.MethodName)) ∈ zz_GW := zz_in 78 (by decide +kernel) (by decide +kernel)
theorem tw_79 : (Jvm.Cond.instanceMethod ({ cls := "StructureRows$Minors", name := "<init>", desc := "()V" } : Jvm.MethodName)) ∈ zz_GW := zz_in 79 (by decide +kernel) (by decide +kernel)
theorem tw_80 : (Jvm.Cond.code ({ cls := "StructureRows$Minors", name := "<init>", desc := "()V" } : Jvm.MethodName) prog_2_method_1_code (1 : Nat) (Option.none : Option Jvm.ClassFile.FieldType)) ∈ zz_GW := zz_in 80 (by decide +kernel) (by decide +kernel)
theorem tw_81 : (Jvm.Cond.methodLink "StructureRows$Minors" (3 : Nat) ({ cls := "java/lang/Object", name := "<init>", desc := "()V" } : Jvm.MethodName)) ∈ zz_GW := zz_in 81 (by decide +kernel) (by decide +kernel)
theorem tw_89 : (Jvm.Cond.classLink "StructureRows" (33 : Nat) "StructureRows$Power") ∈ zz_GW := zz_in 89 (by decide +kernel) (by decide +kernel)
theorem tw_90 : (Jvm.Cond.instantiable "StructureRows$Power" (3 : Nat)) ∈ zz_GW := zz_in 90 (by decide +kernel) (by decide +kernel)
theorem tw_91 : (Jvm.Cond.methodLink "StructureRows" (35 : Nat) ({ cls := "StructureRows$Power", name := "<init>", desc := "()V" } : Jvm.MethodName)) ∈ zz_GW := zz_in 91 (by decide +kernel) (by decide +kernel)
theorem tw_92 : (Jvm.Cond.instanceMethod ({ cls := "StructureRows$Power", name := "<init>", desc := "()V" } : Jvm.MethodName)) ∈ zz_GW := zz_in 92 (by decide +kernel) (by decide +kernel)
theorem tw_93 : (Jvm.Cond.code ({ cls := "StructureRows$Power", name := "<init>", desc := "()V" } : Jvm.MethodName) prog_3_method_1_code (1 : Nat) (Option.none : Option Jvm.ClassFile.FieldType)) ∈ zz_GW := zz_in 93 (by decide +kernel) (by decide +kernel)
theorem tw_94 : (Jvm.Cond.methodLink "StructureRows$Power" (3 : Nat) ({ cls := "java/lang/Object", name := "<init>", desc := "()V" } : Jvm.MethodName)) ∈ zz_GW := zz_in 94 (by decide +kernel) (by decide +kernel)
theorem tw_482 : (Jvm.Cond.methodLink "StructureRowsModel" (1 : Nat) ({ cls := "java/lang/Object", name := "<init>", desc := "()V" } : Jvm.MethodName)) ∈ zz_GW := zz_in 482 (by decide +kernel) (by decide +kernel)
theorem tw_526 : (Jvm.Cond.arrayClass Jvm.ClassFile.FieldType.boolean) ∈ zz_GW := zz_in 526 (by decide +kernel) (by decide +kernel)
theorem d_RD_init_0 : decode b_RD_init 0 = .ok (.aload_n 0, 1) := by decide +kernel
theorem d_RD_init_1 : decode b_RD_init 1 = .ok (.invokespecial 3, 3) := by decide +kernel
theorem d_RD_init_4 : decode b_RD_init 4 = .ok (.aload_n 0, 1) := by decide +kernel
theorem d_RD_init_5 : decode b_RD_init 5 = .ok (.bipush 32, 2) := by decide +kernel
theorem d_RD_init_7 : decode b_RD_init 7 = .ok (.newarray .long, 2) := by decide +kernel
theorem d_RD_init_9 : decode b_RD_init 9 = .ok (.putfield 11, 3) := by decide +kernel
theorem d_RD_init_12 : decode b_RD_init 12 = .ok (.aload_n 0, 1) := by decide +kernel
theorem d_RD_init_13 : decode b_RD_init 13 = .ok (.iconst 4, 1) := by decide +kernel
theorem d_RD_init_14 : decode b_RD_init 14 = .ok (.newarray .int, 2) := by decide +kernel
theorem d_RD_init_16 : decode b_RD_init 16 = .ok (.putfield 15, 3) := by decide +kernel
theorem d_RD_init_19 : decode b_RD_init 19 = .ok (.return_, 1) := by decide +kernel
theorem d_MN_init_0 : decode b_MN_init 0 = .ok (.aload_n 0, 1) := by decide +kernel
theorem d_MN_init_1 : decode b_MN_init 1 = .ok (.invokespecial 3, 3) := by decide +kernel
theorem d_MN_init_4 : decode b_MN_init 4 = .ok (.aload_n 0, 1) := by decide +kernel
theorem d_MN_init_5 : decode b_MN_init 5 = .ok (.sipush 256, 3) := by decide +kernel
theorem d_MN_init_8 : decode b_MN_init 8 = .ok (.newarray .long, 2) := by decide +kernel
theorem d_MN_init_10 : decode b_MN_init 10 = .ok (.putfield 11, 3) := by decide +kernel
theorem d_MN_init_13 : decode b_MN_init 13 = .ok (.return_, 1) := by decide +kernel
theorem d_PW_init_0 : decode b_PW_init 0 = .ok (.aload_n 0, 1) := by decide +kernel
theorem d_PW_init_1 : decode b_PW_init 1 = .ok (.invokespecial 3, 3) := by decide +kernel
theorem d_PW_init_4 : decode b_PW_init 4 = .ok (.aload_n 0, 1) := by decide +kernel
theorem d_PW_init_5 : decode b_PW_init 5 = .ok (.iconst 4, 1) := by decide +kernel
theorem d_PW_init_6 : decode b_PW_init 6 = .ok (.newarray .long, 2) := by decide +kernel
theorem d_PW_init_8 : decode b_PW_init 8 = .ok (.putfield 9, 3) := by decide +kernel
theorem d_PW_init_11 : decode b_PW_init 11 = .ok (.aload_n 0, 1) := by decide +kernel
theorem d_PW_init_12 : decode b_PW_init 12 = .ok (.iconst 4, 1) := by decide +kernel
theorem d_PW_init_13 : decode b_PW_init 13 = .ok (.newarray .long, 2) := by decide +kernel
theorem d_PW_init_15 : decode b_PW_init 15 = .ok (.putfield 15, 3) := by decide +kernel
theorem d_PW_init_18 : decode b_PW_init 18 = .ok (.return_, 1) := by decide +kernel
theorem d_SR_init_0 : decode b_SR_init 0 = .ok (.aload_n 0, 1) := by decide +kernel
theorem d_SR_init_1 : decode b_SR_init 1 = .ok (.invokespecial 1, 3) := by decide +kernel
theorem d_SR_init_4 : decode b_SR_init 4 = .ok (.aload_n 0, 1) := by decide +kernel
theorem d_SR_init_5 : decode b_SR_init 5 = .ok (.bipush 16, 2) := by decide +kernel
theorem d_SR_init_7 : decode b_SR_init 7 = .ok (.newarray .int, 2) := by decide +kernel
theorem d_SR_init_9 : decode b_SR_init 9 = .ok (.putfield 9, 3) := by decide +kernel
theorem d_SR_init_12 : decode b_SR_init 12 = .ok (.aload_n 0, 1) := by decide +kernel
theorem d_SR_init_13 : decode b_SR_init 13 = .ok (.new 13, 3) := by decide +kernel
theorem d_SR_init_16 : decode b_SR_init 16 = .ok (.dup, 1) := by decide +kernel
theorem d_SR_init_17 : decode b_SR_init 17 = .ok (.invokespecial 15, 3) := by decide +kernel
theorem d_SR_init_20 : decode b_SR_init 20 = .ok (.putfield 16, 3) := by decide +kernel
theorem d_SR_init_23 : decode b_SR_init 23 = .ok (.aload_n 0, 1) := by decide +kernel
theorem d_SR_init_24 : decode b_SR_init 24 = .ok (.new 13, 3) := by decide +kernel
theorem d_SR_init_27 : decode b_SR_init 27 = .ok (.dup, 1) := by decide +kernel
theorem d_SR_init_28 : decode b_SR_init 28 = .ok (.invokespecial 15, 3) := by decide +kernel
theorem d_SR_init_31 : decode b_SR_init 31 = .ok (.putfield 20, 3) := by decide +kernel
theorem d_SR_init_34 : decode b_SR_init 34 = .ok (.aload_n 0, 1) := by decide +kernel
theorem d_SR_init_35 : decode b_SR_init 35 = .ok (.new 13, 3) := by decide +kernel
theorem d_SR_init_38 : decode b_SR_init 38 = .ok (.dup, 1) := by decide +kernel
theorem d_SR_init_39 : decode b_SR_init 39 = .ok (.invokespecial 15, 3) := by decide +kernel
theorem d_SR_init_42 : decode b_SR_init 42 = .ok (.putfield 23, 3) := by decide +kernel
theorem d_SR_init_45 : decode b_SR_init 45 = .ok (.aload_n 0, 1) := by decide +kernel
theorem d_SR_init_46 : decode b_SR_init 46 = .ok (.new 26, 3) := by decide +kernel
theorem d_SR_init_49 : decode b_SR_init 49 = .ok (.dup, 1) := by decide +kernel
theorem d_SR_init_50 : decode b_SR_init 50 = .ok (.invokespecial 28, 3) := by decide +kernel
theorem d_SR_init_53 : decode b_SR_init 53 = .ok (.putfield 29, 3) := by decide +kernel
theorem d_SR_init_56 : decode b_SR_init 56 = .ok (.aload_n 0, 1) := by decide +kernel
theorem d_SR_init_57 : decode b_SR_init 57 = .ok (.new 33, 3) := by decide +kernel
theorem d_SR_init_60 : decode b_SR_init 60 = .ok (.dup, 1) := by decide +kernel
theorem d_SR_init_61 : decode b_SR_init 61 = .ok (.invokespecial 35, 3) := by decide +kernel
theorem d_SR_init_64 : decode b_SR_init 64 = .ok (.putfield 36, 3) := by decide +kernel
theorem d_SR_init_67 : decode b_SR_init 67 = .ok (.return_, 1) := by decide +kernel
theorem d_MD_init_0 : decode b_MD_init 0 = .ok (.aload_n 0, 1) := by decide +kernel
theorem d_MD_init_1 : decode b_MD_init 1 = .ok (.invokespecial 1, 3) := by decide +kernel
theorem d_MD_init_4 : decode b_MD_init 4 = .ok (.aload_n 0, 1) := by decide +kernel
theorem d_MD_init_5 : decode b_MD_init 5 = .ok (.bipush 16, 2) := by decide +kernel
theorem d_MD_init_7 : decode b_MD_init 7 = .ok (.newarray .int, 2) := by decide +kernel
theorem d_MD_init_9 : decode b_MD_init 9 = .ok (.putfield 7, 3) := by decide +kernel
theorem d_MD_init_12 : decode b_MD_init 12 = .ok (.aload_n 0, 1) := by decide +kernel
theorem d_MD_init_13 : decode b_MD_init 13 = .ok (.bipush 64, 2) := by decide +kernel
theorem d_MD_init_15 : decode b_MD_init 15 = .ok (.newarray .long, 2) := by decide +kernel
theorem d_MD_init_17 : decode b_MD_init 17 = .ok (.putfield 13, 3) := by decide +kernel
theorem d_MD_init_20 : decode b_MD_init 20 = .ok (.aload_n 0, 1) := by decide +kernel
theorem d_MD_init_21 : decode b_MD_init 21 = .ok (.bipush 8, 2) := by decide +kernel
theorem d_MD_init_23 : decode b_MD_init 23 = .ok (.newarray .boolean, 2) := by decide +kernel
theorem d_MD_init_25 : decode b_MD_init 25 = .ok (.putfield 17, 3) := by decide +kernel
theorem d_MD_init_28 : decode b_MD_init 28 = .ok (.aload_n 0, 1) := by decide +kernel
theorem d_MD_init_29 : decode b_MD_init 29 = .ok (.bipush 8, 2) := by decide +kernel
theorem d_MD_init_31 : decode b_MD_init 31 = .ok (.newarray .long, 2) := by decide +kernel
theorem d_MD_init_33 : decode b_MD_init 33 = .ok (.putfield 21, 3) := by decide +kernel
theorem d_MD_init_36 : decode b_MD_init 36 = .ok (.aload_n 0, 1) := by decide +kernel
theorem d_MD_init_37 : decode b_MD_init 37 = .ok (.bipush 16, 2) := by decide +kernel
theorem d_MD_init_39 : decode b_MD_init 39 = .ok (.newarray .long, 2) := by decide +kernel
theorem d_MD_init_41 : decode b_MD_init 41 = .ok (.putfield 24, 3) := by decide +kernel
theorem d_MD_init_44 : decode b_MD_init 44 = .ok (.aload_n 0, 1) := by decide +kernel
theorem d_MD_init_45 : decode b_MD_init 45 = .ok (.bipush 16, 2) := by decide +kernel
theorem d_MD_init_47 : decode b_MD_init 47 = .ok (.newarray .long, 2) := by decide +kernel
theorem d_MD_init_49 : decode b_MD_init 49 = .ok (.putfield 27, 3) := by decide +kernel
theorem d_MD_init_52 : decode b_MD_init 52 = .ok (.aload_n 0, 1) := by decide +kernel
theorem d_MD_init_53 : decode b_MD_init 53 = .ok (.bipush 16, 2) := by decide +kernel
theorem d_MD_init_55 : decode b_MD_init 55 = .ok (.newarray .long, 2) := by decide +kernel
theorem d_MD_init_57 : decode b_MD_init 57 = .ok (.putfield 30, 3) := by decide +kernel
theorem d_MD_init_60 : decode b_MD_init 60 = .ok (.aload_n 0, 1) := by decide +kernel
theorem d_MD_init_61 : decode b_MD_init 61 = .ok (.iconst 4, 1) := by decide +kernel
theorem d_MD_init_62 : decode b_MD_init 62 = .ok (.newarray .long, 2) := by decide +kernel
theorem d_MD_init_64 : decode b_MD_init 64 = .ok (.putfield 33, 3) := by decide +kernel
theorem d_MD_init_67 : decode b_MD_init 67 = .ok (.aload_n 0, 1) := by decide +kernel
theorem d_MD_init_68 : decode b_MD_init 68 = .ok (.iconst 4, 1) := by decide +kernel
theorem d_MD_init_69 : decode b_MD_init 69 = .ok (.newarray .long, 2) := by decide +kernel
theorem d_MD_init_71 : decode b_MD_init 71 = .ok (.putfield 36, 3) := by decide +kernel
theorem d_MD_init_74 : decode b_MD_init 74 = .ok (.aload_n 0, 1) := by decide +kernel
theorem d_MD_init_75 : decode b_MD_init 75 = .ok (.sipush 256, 3) := by decide +kernel
theorem d_MD_init_78 : decode b_MD_init 78 = .ok (.newarray .long, 2) := by decide +kernel
theorem d_MD_init_80 : decode b_MD_init 80 = .ok (.putfield 39, 3) := by decide +kernel
theorem d_MD_init_83 : decode b_MD_init 83 = .ok (.return_, 1) := by decide +kernel
