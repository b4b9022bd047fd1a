/-! The good words of the tables, one list for every method; rows that every call shares. -/
def zz_GW : List Cond := lw_tbl.filter goodWord
theorem zz_in {w : Cond} (i : Nat) (h : lw_tbl[i]? = some w) (g : goodWord w = true) : w ∈ zz_GW := List.mem_filter.mpr ⟨List.mem_of_getElem? h, g⟩
abbrev zz_w (y : MethodName) (cc : ByteArray) (n : Nat) (r : Option FieldType) : List Cond := Cond.code y cc n r :: zz_GW
theorem zz_good {y : MethodName} {cc : ByteArray} {n : Nat} {r : Option FieldType} (h : Cond.code y cc n r ∈ zz_GW) : GoodIn zz_GW (zz_w y cc n r) := by
  intro w hw
  rcases List.mem_cons.mp hw with e | e
  · rw [e]; exact ⟨h, good_of_word (List.mem_filter.mp h).2⟩
  · exact ⟨e, good_of_word (List.mem_filter.mp e).2⟩
theorem zz_cwV {R : Room} {s : State} {args : Array Value} {own : String} {index maxL mc ms : Nat} {y : MethodName} {bytes : ByteArray} {ret : Option FieldType} {rm : Room} (n : Nat) (hts : ∀ w ∈ zz_GW, w.before args s = true) (hc : Cond.code y bytes maxL ret ∈ zz_GW) (hl : Cond.methodLink own index y ∈ zz_GW) (hi : Cond.instanceMethod y ∈ zz_GW) (hse : Cond.selects y.cls y y ∈ zz_GW) (hini : Cond.initialized y.cls ∈ zz_GW)
    (hd : y.cls ≠ "java/lang/invoke/MethodHandle" ∧ y.cls ≠ "java/lang/invoke/VarHandle" ∧ (parseMethodDescriptor y.desc).map (fun d => d.parameters.length) = some n) (hR : rm.frames + 1 ≤ R.frames ∧ 8 + (maxL + 11) + rm.locals ≤ R.locals) (hrc : rm.cells = mc := by rfl) (hrs : rm.slots = ms := by rfl) : CallW R s args own y.cls index y bytes maxL ret (zz_w y bytes maxL ret) rm mc ms n :=
  ⟨callB_of n hts (zz_good hc) rfl hrc hrs (hts _ hini) (hts _ hl) hd hR, hts _ hi, hts _ hse⟩
theorem zz_cwS {R : Room} {s : State} {args : Array Value} {own : String} {index maxL mc ms : Nat} {y : MethodName} {bytes : ByteArray} {ret : Option FieldType} {rm : Room} (n : Nat) (hts : ∀ w ∈ zz_GW, w.before args s = true) (hc : Cond.code y bytes maxL ret ∈ zz_GW) (hl : Cond.methodLink own index y ∈ zz_GW) (hi : Cond.static y ∈ zz_GW) (hini : Cond.initialized y.cls ∈ zz_GW)
    (hd : y.cls ≠ "java/lang/invoke/MethodHandle" ∧ y.cls ≠ "java/lang/invoke/VarHandle" ∧ (parseMethodDescriptor y.desc).map (fun d => d.parameters.length) = some n) (hR : rm.frames + 1 ≤ R.frames ∧ 8 + (maxL + 11) + rm.locals ≤ R.locals) (hrc : rm.cells = mc := by rfl) (hrs : rm.slots = ms := by rfl) : CallB R s args own index y bytes maxL ret (zz_w y bytes maxL ret) rm mc ms n ∧ (Cond.static y).before args s = true :=
  ⟨callB_of n hts (zz_good hc) rfl hrc hrs (hts _ hini) (hts _ hl) hd hR, hts _ hi⟩
theorem zz_cwI {R : Room} {s : State} {args : Array Value} {own : String} {index maxL mc ms : Nat} {y : MethodName} {bytes : ByteArray} {rm : Room} (n : Nat) (hts : ∀ w ∈ zz_GW, w.before args s = true) (hc : Cond.code y bytes maxL none ∈ zz_GW) (hl : Cond.methodLink own index y ∈ zz_GW) (hi : Cond.instanceMethod y ∈ zz_GW) (hini : Cond.initialized y.cls ∈ zz_GW) (hy : y.name = "<init>")
    (hd : y.cls ≠ "java/lang/invoke/MethodHandle" ∧ y.cls ≠ "java/lang/invoke/VarHandle" ∧ (parseMethodDescriptor y.desc).map (fun d => d.parameters.length) = some n) (hR : rm.frames + 1 ≤ R.frames ∧ 8 + (maxL + 11) + rm.locals ≤ R.locals) (hrc : rm.cells = mc := by rfl) (hrs : rm.slots = ms := by rfl) : CallB R s args own index y bytes maxL none (zz_w y bytes maxL none) rm mc ms n ∧ y.name = "<init>" ∧ (Cond.instanceMethod y).before args s = true :=
  ⟨callB_of n hts (zz_good hc) rfl hrc hrs (hts _ hini) (hts _ hl) hd hR, hy, hts _ hi⟩
theorem zz_cwN {R : Room} {s : State} {args : Array Value} {own host : String} {index maxL mc ms : Nat} {y : MethodName} {bytes : ByteArray} {ret : Option FieldType} {rm : Room} (n : Nat) (hts : ∀ w ∈ zz_GW, w.before args s = true) (hc : Cond.code y bytes maxL ret ∈ zz_GW) (hl : va_Nw (.methodLinkNest own index y host) s) (hi : Cond.static y ∈ zz_GW) (hini : Cond.initialized y.cls ∈ zz_GW)
    (hd : y.cls ≠ "java/lang/invoke/MethodHandle" ∧ y.cls ≠ "java/lang/invoke/VarHandle" ∧ (parseMethodDescriptor y.desc).map (fun d => d.parameters.length) = some n) (hR : rm.frames + 1 ≤ R.frames ∧ 8 + (maxL + 11) + rm.locals ≤ R.locals) (hrc : rm.cells = mc := by rfl) (hrs : rm.slots = ms := by rfl) : va_CN R s args own index y host bytes maxL ret (zz_w y bytes maxL ret) rm mc ms n ∧ (Cond.static y).before args s = true ∧ True :=
  ⟨va_cnB n hts (zz_good hc) rfl hrc hrs hl (hts _ hini) hd hR, hts _ hi, trivial⟩
theorem zz_blind {av : List Value} {D : va_G} {cl : List vw_C} {tys : List (ClassId × FieldType)} {ws : va_W} {sz : Nat} : FrameBlind (va_Pc av (fun U => U.heap.size = sz ∧ va_P D cl ws U.heap ∧ va_K D cl tys U ∧ va_D (fun _ => True) ws)) :=
  fun a U g mk q => by obtain ⟨q0, q1, qP, qK, qD⟩ := q; exact ⟨q0, q1, qP, va_K.moved (u := U) (U := U.calling g mk a) (Vm.Alike.refl U.vm) qK, qD⟩
def T_MN : u_T := fun k => match k with
  | 0 => ("StructureRows$Minors", "values", "[J", true)
  | _ => ("StructureRows$Minors", "rowSets", "I", false)
def ty_MN : Nat → FieldType := fun k => match k with
  | 0 => .array .long
  | _ => .int
theorem nm_MN : ∀ a, a < 2 → ∀ b, b < 2 → a ≠ b → (T_MN a).2.1 ≠ (T_MN b).2.1 := by decide +kernel
theorem tyok_MN : ∀ k, k < 2 → parseFieldDescriptor (T_MN k).2.2.1 = some (ty_MN k) := by decide +kernel
set_option maxRecDepth 100000 in
theorem in_MN : ∀ w ∈ u_ws "StructureRows$Minors" T_MN 2, w ∈ zz_GW := by decide +kernel
def T_PW : u_T := fun k => match k with
  | 0 => ("StructureRows$Power", "rest", "[J", true)
  | 1 => ("StructureRows$Power", "shares", "[J", true)
  | _ => ("StructureRows$Power", "known", "Z", false)
def ty_PW : Nat → FieldType := fun k => match k with
  | 0 => .array .long
  | 1 => .array .long
  | _ => .boolean
theorem nm_PW : ∀ a, a < 3 → ∀ b, b < 3 → a ≠ b → (T_PW a).2.1 ≠ (T_PW b).2.1 := by decide +kernel
theorem tyok_PW : ∀ k, k < 3 → parseFieldDescriptor (T_PW k).2.2.1 = some (ty_PW k) := by decide +kernel
set_option maxRecDepth 100000 in
theorem in_PW : ∀ w ∈ u_ws "StructureRows$Power" T_PW 3, w ∈ zz_GW := by decide +kernel
def T_RD : u_T := fun k => match k with
  | 0 => ("StructureRows$Reduction", "cells", "[J", true)
  | 1 => ("StructureRows$Reduction", "beginnings", "[I", true)
  | 2 => ("StructureRows$Reduction", "height", "I", false)
  | 3 => ("StructureRows$Reduction", "width", "I", false)
  | _ => ("StructureRows$Reduction", "imageHeight", "I", false)
def ty_RD : Nat → FieldType := fun k => match k with
  | 0 => .array .long
  | 1 => .array .int
  | 2 => .int
  | 3 => .int
  | _ => .int
theorem nm_RD : ∀ a, a < 5 → ∀ b, b < 5 → a ≠ b → (T_RD a).2.1 ≠ (T_RD b).2.1 := by decide +kernel
theorem tyok_RD : ∀ k, k < 5 → parseFieldDescriptor (T_RD k).2.2.1 = some (ty_RD k) := by decide +kernel
set_option maxRecDepth 100000 in
theorem in_RD : ∀ w ∈ u_ws "StructureRows$Reduction" T_RD 5, w ∈ zz_GW := by decide +kernel
def T_SR : u_T := fun k => match k with
  | 0 => ("StructureRows", "exponents", "[I", true)
  | 1 => ("StructureRows", "count", "I", false)
  | 2 => ("StructureRows", "byElement", "LStructureRows$Reduction;", true)
  | 3 => ("StructureRows", "byLetter", "LStructureRows$Reduction;", true)
  | 4 => ("StructureRows", "hullByLetter", "LStructureRows$Reduction;", true)
  | 5 => ("StructureRows", "settled", "Z", false)
  | 6 => ("StructureRows", "minors", "LStructureRows$Minors;", true)
  | _ => ("StructureRows", "knownPower", "LStructureRows$Power;", true)
def ty_SR : Nat → FieldType := fun k => match k with
  | 0 => .array .int
  | 1 => .int
  | 2 => .object "StructureRows$Reduction"
  | 3 => .object "StructureRows$Reduction"
  | 4 => .object "StructureRows$Reduction"
  | 5 => .boolean
  | 6 => .object "StructureRows$Minors"
  | _ => .object "StructureRows$Power"
theorem nm_SR : ∀ a, a < 8 → ∀ b, b < 8 → a ≠ b → (T_SR a).2.1 ≠ (T_SR b).2.1 := by decide +kernel
theorem tyok_SR : ∀ k, k < 8 → parseFieldDescriptor (T_SR k).2.2.1 = some (ty_SR k) := by decide +kernel
set_option maxRecDepth 100000 in
theorem in_SR : ∀ w ∈ u_ws "StructureRows" T_SR 8, w ∈ zz_GW := by decide +kernel
def T_MD : u_T := fun k => match k with
  | 0 => ("StructureRowsModel", "code", "I", false)
  | 1 => ("StructureRowsModel", "elements", "I", false)
  | 2 => ("StructureRowsModel", "numbers", "[I", true)
  | 3 => ("StructureRowsModel", "stair", "[J", true)
  | 4 => ("StructureRowsModel", "begins", "[Z", true)
  | 5 => ("StructureRowsModel", "row", "[J", true)
  | 6 => ("StructureRowsModel", "matrix", "[J", true)
  | 7 => ("StructureRowsModel", "many", "I", false)
  | 8 => ("StructureRowsModel", "told", "[J", true)
  | 9 => ("StructureRowsModel", "across", "[J", true)
  | 10 => ("StructureRowsModel", "known", "Z", false)
  | 11 => ("StructureRowsModel", "power", "[J", true)
  | 12 => ("StructureRowsModel", "left", "[J", true)
  | _ => ("StructureRowsModel", "minors", "[J", true)
def ty_MD : Nat → FieldType := fun k => match k with
  | 0 => .int
  | 1 => .int
  | 2 => .array .int
  | 3 => .array .long
  | 4 => .array .boolean
  | 5 => .array .long
  | 6 => .array .long
  | 7 => .int
  | 8 => .array .long
  | 9 => .array .long
  | 10 => .boolean
  | 11 => .array .long
  | 12 => .array .long
  | _ => .array .long
theorem nm_MD : ∀ a, a < 14 → ∀ b, b < 14 → a ≠ b → (T_MD a).2.1 ≠ (T_MD b).2.1 := by decide +kernel
theorem tyok_MD : ∀ k, k < 14 → parseFieldDescriptor (T_MD k).2.2.1 = some (ty_MD k) := by decide +kernel
set_option maxRecDepth 100000 in
theorem in_MD : ∀ w ∈ u_ws "StructureRowsModel" T_MD 14, w ∈ zz_GW := by decide +kernel
abbrev zz_cl : List vw_C := [("StructureRows$Minors", T_MN, 2), ("StructureRows$Power", T_PW, 3), ("StructureRows$Reduction", T_RD, 5), ("StructureRows", T_SR, 8), ("StructureRowsModel", T_MD, 14)]
abbrev b_RD_cell : ByteArray := prog_4_method_16_code
abbrev y_RD_cell : MethodName := ⟨"StructureRows$Reduction", "cell", "(II)J"⟩
abbrev b_RD_set : ByteArray := prog_4_method_3_code
abbrev y_RD_set : MethodName := ⟨"StructureRows$Reduction", "set", "(IIJ)V"⟩
abbrev b_RD_takeAway : ByteArray := prog_4_method_14_code
abbrev y_RD_takeAway : MethodName := ⟨"StructureRows$Reduction", "takeAway", "(IIJ)V"⟩
abbrev b_RD_swap : ByteArray := prog_4_method_15_code
abbrev y_RD_swap : MethodName := ⟨"StructureRows$Reduction", "swap", "(II)V"⟩
abbrev b_RD_turnSigns : ByteArray := prog_4_method_13_code
abbrev y_RD_turnSigns : MethodName := ⟨"StructureRows$Reduction", "turnSigns", "(I)V"⟩
abbrev b_RD_clearNewest : ByteArray := prog_4_method_10_code
abbrev y_RD_clearNewest : MethodName := ⟨"StructureRows$Reduction", "clearNewest", "(III)V"⟩
abbrev b_RD_moveAhead : ByteArray := prog_4_method_11_code
abbrev y_RD_moveAhead : MethodName := ⟨"StructureRows$Reduction", "moveAhead", "(III)V"⟩
abbrev b_MA_floorDiv : ByteArray := prog_12_method_49_code
abbrev y_MA_floorDiv : MethodName := ⟨"java/lang/Math", "floorDiv", "(JJ)J"⟩
abbrev b_RD_keepSmall : ByteArray := prog_4_method_12_code
abbrev y_RD_keepSmall : MethodName := ⟨"StructureRows$Reduction", "keepSmall", "(II)V"⟩
abbrev b_RD_takeIn : ByteArray := prog_4_method_9_code
abbrev y_RD_takeIn : MethodName := ⟨"StructureRows$Reduction", "takeIn", "(I)V"⟩
abbrev b_RD_reduce : ByteArray := prog_4_method_8_code
abbrev y_RD_reduce : MethodName := ⟨"StructureRows$Reduction", "reduce", "()V"⟩
abbrev b_MA_min : ByteArray := prog_12_method_69_code
abbrev y_MA_min : MethodName := ⟨"java/lang/Math", "min", "(II)I"⟩
abbrev b_MA_max : ByteArray := prog_12_method_65_code
abbrev y_MA_max : MethodName := ⟨"java/lang/Math", "max", "(II)I"⟩
abbrev b_RD_open : ByteArray := prog_4_method_2_code
abbrev y_RD_open : MethodName := ⟨"StructureRows$Reduction", "open", "(II)V"⟩
abbrev b_RD_imageRows : ByteArray := prog_4_method_4_code
abbrev y_RD_imageRows : MethodName := ⟨"StructureRows$Reduction", "imageRows", "()I"⟩
abbrev b_RD_kernelRows : ByteArray := prog_4_method_5_code
abbrev y_RD_kernelRows : MethodName := ⟨"StructureRows$Reduction", "kernelRows", "()I"⟩
abbrev b_RD_image : ByteArray := prog_4_method_6_code
abbrev y_RD_image : MethodName := ⟨"StructureRows$Reduction", "image", "(II)J"⟩
abbrev b_RD_kernel : ByteArray := prog_4_method_7_code
abbrev y_RD_kernel : MethodName := ⟨"StructureRows$Reduction", "kernel", "(II)J"⟩
abbrev b_IN_bitCount : ByteArray := prog_11_method_49_code
abbrev y_IN_bitCount : MethodName := ⟨"java/lang/Integer", "bitCount", "(I)I"⟩
abbrev b_MN_alongLastRow : ByteArray := prog_2_method_3_code
abbrev y_MN_alongLastRow : MethodName := ⟨"StructureRows$Minors", "alongLastRow", "([IIII)J"⟩
abbrev b_MN_expand : ByteArray := prog_2_method_2_code
abbrev y_MN_expand : MethodName := ⟨"StructureRows$Minors", "expand", "([II)V"⟩
abbrev b_PW_isKnown : ByteArray := prog_3_method_2_code
abbrev y_PW_isKnown : MethodName := ⟨"StructureRows$Power", "isKnown", "()Z"⟩
abbrev b_PW_share : ByteArray := prog_3_method_3_code
abbrev y_PW_share : MethodName := ⟨"StructureRows$Power", "share", "(I)J"⟩
abbrev b_PW_forget : ByteArray := prog_3_method_4_code
abbrev y_PW_forget : MethodName := ⟨"StructureRows$Power", "forget", "()V"⟩
abbrev b_PW_start : ByteArray := prog_3_method_5_code
abbrev y_PW_start : MethodName := ⟨"StructureRows$Power", "start", "(IIII)V"⟩
abbrev b_PW_widen : ByteArray := prog_3_method_8_code
abbrev y_PW_widen : MethodName := ⟨"StructureRows$Power", "widen", "(JI)V"⟩
abbrev b_PW_takeAwayShare : ByteArray := prog_3_method_9_code
abbrev y_PW_takeAwayShare : MethodName := ⟨"StructureRows$Power", "takeAwayShare", "(LStructureRows$Reduction;I)V"⟩
abbrev b_PW_isNothingLeft : ByteArray := prog_3_method_10_code
abbrev y_PW_isNothingLeft : MethodName := ⟨"StructureRows$Power", "isNothingLeft", "()Z"⟩
abbrev b_MD_thrown : ByteArray := prog_6_method_2_code
abbrev y_MD_thrown : MethodName := ⟨"StructureRowsModel", "thrown", "()I"⟩
abbrev b_MD_raise : ByteArray := prog_6_method_3_code
abbrev y_MD_raise : MethodName := ⟨"StructureRowsModel", "raise", "(I)I"⟩
abbrev b_MD_in : ByteArray := prog_6_method_4_code
abbrev y_MD_in : MethodName := ⟨"StructureRowsModel", "in", "(JJJ)Z"⟩
abbrev b_MD_element : ByteArray := prog_6_method_5_code
abbrev y_MD_element : MethodName := ⟨"StructureRowsModel", "element", "()I"⟩
abbrev b_MD_isElement : ByteArray := prog_6_method_6_code
abbrev y_MD_isElement : MethodName := ⟨"StructureRowsModel", "isElement", "(I)Z"⟩
abbrev b_MD_put : ByteArray := prog_6_method_7_code
abbrev y_MD_put : MethodName := ⟨"StructureRowsModel", "put", "(III)Z"⟩
abbrev b_MD_at : ByteArray := prog_6_method_8_code
abbrev y_MD_at : MethodName := ⟨"StructureRowsModel", "at", "(II)I"⟩
abbrev b_MD_multiply : ByteArray := prog_6_method_9_code
abbrev y_MD_multiply : MethodName := ⟨"StructureRowsModel", "multiply", "(III)Z"⟩
abbrev b_MD_count : ByteArray := prog_6_method_10_code
abbrev y_MD_count : MethodName := ⟨"StructureRowsModel", "count", "()I"⟩
abbrev b_MD_clear : ByteArray := prog_6_method_11_code
abbrev y_MD_clear : MethodName := ⟨"StructureRowsModel", "clear", "()V"⟩
abbrev b_MD_start : ByteArray := prog_6_method_12_code
abbrev y_MD_start : MethodName := ⟨"StructureRowsModel", "start", "()V"⟩
abbrev b_MD_settle : ByteArray := prog_6_method_14_code
abbrev y_MD_settle : MethodName := ⟨"StructureRowsModel", "settle", "()V"⟩
abbrev b_MD_insert : ByteArray := prog_6_method_13_code
abbrev y_MD_insert : MethodName := ⟨"StructureRowsModel", "insert", "()V"⟩
abbrev b_MD_tell : ByteArray := prog_6_method_15_code
abbrev y_MD_tell : MethodName := ⟨"StructureRowsModel", "tell", "(I)V"⟩
abbrev b_MD_findGroup : ByteArray := prog_6_method_16_code
abbrev y_MD_findGroup : MethodName := ⟨"StructureRowsModel", "findGroup", "()V"⟩
abbrev b_MD_findRelations : ByteArray := prog_6_method_17_code
abbrev y_MD_findRelations : MethodName := ⟨"StructureRowsModel", "findRelations", "(I)V"⟩
abbrev b_MD_relate : ByteArray := prog_6_method_18_code
abbrev y_MD_relate : MethodName := ⟨"StructureRowsModel", "relate", "()V"⟩
abbrev b_MD_findHull : ByteArray := prog_6_method_19_code
abbrev y_MD_findHull : MethodName := ⟨"StructureRowsModel", "findHull", "()V"⟩
abbrev b_MD_toldAt : ByteArray := prog_6_method_20_code
abbrev y_MD_toldAt : MethodName := ⟨"StructureRowsModel", "toldAt", "(IIZ)J"⟩
abbrev b_MD_rank : ByteArray := prog_6_method_21_code
abbrev y_MD_rank : MethodName := ⟨"StructureRowsModel", "rank", "()I"⟩
abbrev b_MD_relations : ByteArray := prog_6_method_22_code
abbrev y_MD_relations : MethodName := ⟨"StructureRowsModel", "relations", "()I"⟩
abbrev b_MD_relation : ByteArray := prog_6_method_23_code
abbrev y_MD_relation : MethodName := ⟨"StructureRowsModel", "relation", "(II)J"⟩
abbrev b_MD_group : ByteArray := prog_6_method_24_code
abbrev y_MD_group : MethodName := ⟨"StructureRowsModel", "group", "(II)J"⟩
abbrev b_MD_hull : ByteArray := prog_6_method_25_code
abbrev y_MD_hull : MethodName := ⟨"StructureRowsModel", "hull", "(II)J"⟩
abbrev b_MD_divisor : ByteArray := prog_6_method_26_code
abbrev y_MD_divisor : MethodName := ⟨"StructureRowsModel", "divisor", "(JJ)J"⟩
abbrev b_MD_bits : ByteArray := prog_6_method_27_code
abbrev y_MD_bits : MethodName := ⟨"StructureRowsModel", "bits", "(I)I"⟩
abbrev b_MD_minor : ByteArray := prog_6_method_29_code
abbrev y_MD_minor : MethodName := ⟨"StructureRowsModel", "minor", "(II)J"⟩
abbrev b_MD_common : ByteArray := prog_6_method_28_code
abbrev y_MD_common : MethodName := ⟨"StructureRowsModel", "common", "(I)J"⟩
abbrev b_MD_factor : ByteArray := prog_6_method_30_code
abbrev y_MD_factor : MethodName := ⟨"StructureRowsModel", "factor", "(I)J"⟩
abbrev b_MD_isIn : ByteArray := prog_6_method_31_code
abbrev y_MD_isIn : MethodName := ⟨"StructureRowsModel", "isIn", "(IIIII)Z"⟩
abbrev b_MD_test : ByteArray := prog_6_method_32_code
abbrev y_MD_test : MethodName := ⟨"StructureRowsModel", "test", "(IIII)J"⟩
abbrev b_MD_times : ByteArray := prog_6_method_33_code
abbrev y_MD_times : MethodName := ⟨"StructureRowsModel", "times", "(I)J"⟩
theorem tw_1 : (Cond.selects "StructureRows$Reduction" ⟨"StructureRows$Reduction", "takeIn", "(I)V"⟩ ⟨"StructureRows$Reduction", "takeIn", "(I)V"⟩) ∈ zz_GW := zz_in 1 (by decide +kernel) (by decide +kernel)
theorem tw_2 : (Cond.selects "StructureRows$Reduction" ⟨"StructureRows$Reduction", "cell", "(II)J"⟩ ⟨"StructureRows$Reduction", "cell", "(II)J"⟩) ∈ zz_GW := zz_in 2 (by decide +kernel) (by decide +kernel)
theorem tw_3 : (Cond.selects "StructureRows$Reduction" ⟨"StructureRows$Reduction", "clearNewest", "(III)V"⟩ ⟨"StructureRows$Reduction", "clearNewest", "(III)V"⟩) ∈ zz_GW := zz_in 3 (by decide +kernel) (by decide +kernel)
theorem tw_4 : (Cond.selects "StructureRows$Reduction" ⟨"StructureRows$Reduction", "takeAway", "(IIJ)V"⟩ ⟨"StructureRows$Reduction", "takeAway", "(IIJ)V"⟩) ∈ zz_GW := zz_in 4 (by decide +kernel) (by decide +kernel)
theorem tw_5 : (Cond.selects "StructureRows$Reduction" ⟨"StructureRows$Reduction", "swap", "(II)V"⟩ ⟨"StructureRows$Reduction", "swap", "(II)V"⟩) ∈ zz_GW := zz_in 5 (by decide +kernel) (by decide +kernel)
theorem tw_6 : (Cond.selects "StructureRows$Reduction" ⟨"StructureRows$Reduction", "turnSigns", "(I)V"⟩ ⟨"StructureRows$Reduction", "turnSigns", "(I)V"⟩) ∈ zz_GW := zz_in 6 (by decide +kernel) (by decide +kernel)
theorem tw_7 : (Cond.selects "StructureRows$Reduction" ⟨"StructureRows$Reduction", "keepSmall", "(II)V"⟩ ⟨"StructureRows$Reduction", "keepSmall", "(II)V"⟩) ∈ zz_GW := zz_in 7 (by decide +kernel) (by decide +kernel)
theorem tw_8 : (Cond.selects "StructureRows$Reduction" ⟨"StructureRows$Reduction", "moveAhead", "(III)V"⟩ ⟨"StructureRows$Reduction", "moveAhead", "(III)V"⟩) ∈ zz_GW := zz_in 8 (by decide +kernel) (by decide +kernel)
theorem tw_12 : (Cond.selects "StructureRows$Minors" ⟨"StructureRows$Minors", "alongLastRow", "([IIII)J"⟩ ⟨"StructureRows$Minors", "alongLastRow", "([IIII)J"⟩) ∈ zz_GW := zz_in 12 (by decide +kernel) (by decide +kernel)
theorem tw_16 : (Cond.selects "StructureRowsModel" ⟨"StructureRowsModel", "isElement", "(I)Z"⟩ ⟨"StructureRowsModel", "isElement", "(I)Z"⟩) ∈ zz_GW := zz_in 16 (by decide +kernel) (by decide +kernel)
theorem tw_17 : (Cond.selects "StructureRowsModel" ⟨"StructureRowsModel", "findGroup", "()V"⟩ ⟨"StructureRowsModel", "findGroup", "()V"⟩) ∈ zz_GW := zz_in 17 (by decide +kernel) (by decide +kernel)
theorem tw_18 : (Cond.selects "StructureRowsModel" ⟨"StructureRowsModel", "start", "()V"⟩ ⟨"StructureRowsModel", "start", "()V"⟩) ∈ zz_GW := zz_in 18 (by decide +kernel) (by decide +kernel)
theorem tw_19 : (Cond.selects "StructureRowsModel" ⟨"StructureRowsModel", "insert", "()V"⟩ ⟨"StructureRowsModel", "insert", "()V"⟩) ∈ zz_GW := zz_in 19 (by decide +kernel) (by decide +kernel)
theorem tw_20 : (Cond.selects "StructureRowsModel" ⟨"StructureRowsModel", "settle", "()V"⟩ ⟨"StructureRowsModel", "settle", "()V"⟩) ∈ zz_GW := zz_in 20 (by decide +kernel) (by decide +kernel)
theorem tw_21 : (Cond.selects "StructureRowsModel" ⟨"StructureRowsModel", "tell", "(I)V"⟩ ⟨"StructureRowsModel", "tell", "(I)V"⟩) ∈ zz_GW := zz_in 21 (by decide +kernel) (by decide +kernel)
theorem tw_22 : (Cond.selects "StructureRowsModel" ⟨"StructureRowsModel", "relate", "()V"⟩ ⟨"StructureRowsModel", "relate", "()V"⟩) ∈ zz_GW := zz_in 22 (by decide +kernel) (by decide +kernel)
theorem tw_23 : (Cond.selects "StructureRowsModel" ⟨"StructureRowsModel", "findRelations", "(I)V"⟩ ⟨"StructureRowsModel", "findRelations", "(I)V"⟩) ∈ zz_GW := zz_in 23 (by decide +kernel) (by decide +kernel)
theorem tw_24 : (Cond.selects "StructureRowsModel" ⟨"StructureRowsModel", "toldAt", "(IIZ)J"⟩ ⟨"StructureRowsModel", "toldAt", "(IIZ)J"⟩) ∈ zz_GW := zz_in 24 (by decide +kernel) (by decide +kernel)
theorem tw_25 : (Cond.selects "StructureRowsModel" ⟨"StructureRowsModel", "findHull", "()V"⟩ ⟨"StructureRowsModel", "findHull", "()V"⟩) ∈ zz_GW := zz_in 25 (by decide +kernel) (by decide +kernel)
theorem tw_26 : (Cond.selects "StructureRowsModel" ⟨"StructureRowsModel", "common", "(I)J"⟩ ⟨"StructureRowsModel", "common", "(I)J"⟩) ∈ zz_GW := zz_in 26 (by decide +kernel) (by decide +kernel)
theorem tw_27 : (Cond.selects "StructureRowsModel" ⟨"StructureRowsModel", "minor", "(II)J"⟩ ⟨"StructureRowsModel", "minor", "(II)J"⟩) ∈ zz_GW := zz_in 27 (by decide +kernel) (by decide +kernel)
theorem tw_28 : (Cond.selects "StructureRowsModel" ⟨"StructureRowsModel", "isIn", "(IIIII)Z"⟩ ⟨"StructureRowsModel", "isIn", "(IIIII)Z"⟩) ∈ zz_GW := zz_in 28 (by decide +kernel) (by decide +kernel)
theorem tw_29 : (Cond.selects "StructureRowsModel" ⟨"StructureRowsModel", "raise", "(I)I"⟩ ⟨"StructureRowsModel", "raise", "(I)I"⟩) ∈ zz_GW := zz_in 29 (by decide +kernel) (by decide +kernel)
theorem tw_32 : (Jvm.Cond.initialized "StructureRows$Reduction") ∈ zz_GW := zz_in 32 (by decide +kernel) (by decide +kernel)
theorem tw_33 : (Jvm.Cond.initialized "StructureRows$Minors") ∈ zz_GW := zz_in 33 (by decide +kernel) (by decide +kernel)
theorem tw_35 : (Jvm.Cond.initialized "StructureRowsModel") ∈ zz_GW := zz_in 35 (by decide +kernel) (by decide +kernel)
theorem tw_42 : (Jvm.Cond.initialized "java/lang/Math") ∈ zz_GW := zz_in 42 (by decide +kernel) (by decide +kernel)
theorem tw_43 : (Jvm.Cond.initialized "java/lang/Integer") ∈ zz_GW := zz_in 43 (by decide +kernel) (by decide +kernel)
theorem tw_58 : (Jvm.Cond.fieldLink "StructureRows$Reduction" (11 : Nat) "StructureRows$Reduction" "cells" "[J") ∈ zz_GW := zz_in 58 (by decide +kernel) (by decide +kernel)
theorem tw_59 : (Jvm.Cond.fieldLink "StructureRows$Reduction" (15 : Nat) "StructureRows$Reduction" "beginnings" "[I") ∈ zz_GW := zz_in 59 (by decide +kernel) (by decide +kernel)
theorem tw_60 : (Jvm.Cond.fieldLink "StructureRows$Reduction" (28 : Nat) "StructureRows$Reduction" "height" "I") ∈ zz_GW := zz_in 60 (by decide +kernel) (by decide +kernel)
theorem tw_61 : (Jvm.Cond.fieldLink "StructureRows$Reduction" (32 : Nat) "StructureRows$Reduction" "width" "I") ∈ zz_GW := zz_in 61 (by decide +kernel) (by decide +kernel)
theorem tw_62 : (Jvm.Cond.fieldLink "StructureRows$Reduction" (39 : Nat) "StructureRows$Reduction" "imageHeight" "I") ∈ zz_GW := zz_in 62 (by decide +kernel) (by decide +kernel)
theorem tw_82 : (Jvm.Cond.fieldLink "StructureRows$Minors" (11 : Nat) "StructureRows$Minors" "values" "[J") ∈ zz_GW := zz_in 82 (by decide +kernel) (by decide +kernel)
theorem tw_83 : (Jvm.Cond.fieldLink "StructureRows$Minors" (15 : Nat) "StructureRows$Minors" "rowSets" "I") ∈ zz_GW := zz_in 83 (by decide +kernel) (by decide +kernel)
theorem tw_95 : (Jvm.Cond.fieldLink "StructureRows$Power" (9 : Nat) "StructureRows$Power" "rest" "[J") ∈ zz_GW := zz_in 95 (by decide +kernel) (by decide +kernel)
theorem tw_96 : (Jvm.Cond.fieldLink "StructureRows$Power" (15 : Nat) "StructureRows$Power" "shares" "[J") ∈ zz_GW := zz_in 96 (by decide +kernel) (by decide +kernel)
theorem tw_97 : (Jvm.Cond.fieldLink "StructureRows$Power" (18 : Nat) "StructureRows$Power" "known" "Z") ∈ zz_GW := zz_in 97 (by decide +kernel) (by decide +kernel)
theorem tw_142 : (Jvm.Cond.methodLink "StructureRows$Reduction" (19 : Nat) ({ cls := "java/lang/Math", name := "min", desc := "(II)I" } : Jvm.MethodName)) ∈ zz_GW := zz_in 142 (by decide +kernel) (by decide +kernel)
theorem tw_143 : (Jvm.Cond.static ({ cls := "java/lang/Math", name := "min", desc := "(II)I" } : Jvm.MethodName)) ∈ zz_GW := zz_in 143 (by decide +kernel) (by decide +kernel)
theorem tw_144 : (Jvm.Cond.code ({ cls := "java/lang/Math", name := "min", desc := "(II)I" } : Jvm.MethodName) prog_12_method_69_code (2 : Nat) (Option.some Jvm.ClassFile.FieldType.int)) ∈ zz_GW := zz_in 144 (by decide +kernel) (by decide +kernel)
theorem tw_145 : (Jvm.Cond.methodLink "StructureRows$Reduction" (25 : Nat) ({ cls := "java/lang/Math", name := "max", desc := "(II)I" } : Jvm.MethodName)) ∈ zz_GW := zz_in 145 (by decide +kernel) (by decide +kernel)
theorem tw_146 : (Jvm.Cond.static ({ cls := "java/lang/Math", name := "max", desc := "(II)I" } : Jvm.MethodName)) ∈ zz_GW := zz_in 146 (by decide +kernel) (by decide +kernel)
theorem tw_147 : (Jvm.Cond.code ({ cls := "java/lang/Math", name := "max", desc := "(II)I" } : Jvm.MethodName) prog_12_method_65_code (2 : Nat) (Option.some Jvm.ClassFile.FieldType.int)) ∈ zz_GW := zz_in 147 (by decide +kernel) (by decide +kernel)
theorem tw_148 : (Jvm.Cond.methodLink "StructureRows$Reduction" (35 : Nat) ({ cls := "StructureRows$Reduction", name := "set", desc := "(IIJ)V" } : Jvm.MethodName)) ∈ zz_GW := zz_in 148 (by decide +kernel) (by decide +kernel)
theorem tw_149 : (Jvm.Cond.instanceMethod ({ cls := "StructureRows$Reduction", name := "set", desc := "(IIJ)V" } : Jvm.MethodName)) ∈ zz_GW := zz_in 149 (by decide +kernel) (by decide +kernel)
theorem tw_150 : (Jvm.Cond.selects "StructureRows$Reduction" ({ cls := "StructureRows$Reduction", name := "set", desc := "(IIJ)V" } : Jvm.MethodName) ({ cls := "StructureRows$Reduction", name := "set", desc := "(IIJ)V" } : Jvm.MethodName)) ∈ zz_GW := zz_in 150 (by decide +kernel) (by decide +kernel)
theorem tw_151 : (Jvm.Cond.code ({ cls := "StructureRows$Reduction", name := "set", desc := "(IIJ)V" } : Jvm.MethodName) prog_4_method_3_code (5 : Nat) (Option.none : Option Jvm.ClassFile.FieldType)) ∈ zz_GW := zz_in 151 (by decide +kernel) (by decide +kernel)
theorem tw_157 : (Jvm.Cond.methodLink "StructureRows$Reduction" (46 : Nat) ({ cls := "StructureRows$Reduction", name := "takeIn", desc := "(I)V" } : Jvm.MethodName)) ∈ zz_GW := zz_in 157 (by decide +kernel) (by decide +kernel)
theorem tw_159 : (Jvm.Cond.instanceMethod ({ cls := "StructureRows$Reduction", name := "takeIn", desc := "(I)V" } : Jvm.MethodName)) ∈ zz_GW := zz_in 159 (by decide +kernel) (by decide +kernel)
theorem tw_160 : (Jvm.Cond.code ({ cls := "StructureRows$Reduction", name := "takeIn", desc := "(I)V" } : Jvm.MethodName) prog_4_method_9_code (5 : Nat) (Option.none : Option Jvm.ClassFile.FieldType)) ∈ zz_GW := zz_in 160 (by decide +kernel) (by decide +kernel)
theorem tw_161 : (Jvm.Cond.methodLink "StructureRows$Reduction" (42 : Nat) ({ cls := "StructureRows$Reduction", name := "cell", desc := "(II)J" } : Jvm.MethodName)) ∈ zz_GW := zz_in 161 (by decide +kernel) (by decide +kernel)
theorem tw_163 : (Jvm.Cond.instanceMethod ({ cls := "StructureRows$Reduction", name := "cell", desc := "(II)J" } : Jvm.MethodName)) ∈ zz_GW := zz_in 163 (by decide +kernel) (by decide +kernel)
theorem tw_164 : (Jvm.Cond.code ({ cls := "StructureRows$Reduction", name := "cell", desc := "(II)J" } : Jvm.MethodName) prog_4_method_16_code (3 : Nat) (Option.some Jvm.ClassFile.FieldType.long)) ∈ zz_GW := zz_in 164 (by decide +kernel) (by decide +kernel)
theorem tw_165 : (Jvm.Cond.methodLink "StructureRows$Reduction" (50 : Nat) ({ cls := "StructureRows$Reduction", name := "clearNewest", desc := "(III)V" } : Jvm.MethodName)) ∈ zz_GW := zz_in 165 (by decide +kernel) (by decide +kernel)
theorem tw_167 : (Jvm.Cond.instanceMethod ({ cls := "StructureRows$Reduction", name := "clearNewest", desc := "(III)V" } : Jvm.MethodName)) ∈ zz_GW := zz_in 167 (by decide +kernel) (by decide +kernel)
theorem tw_168 : (Jvm.Cond.code ({ cls := "StructureRows$Reduction", name := "clearNewest", desc := "(III)V" } : Jvm.MethodName) prog_4_method_10_code (5 : Nat) (Option.none : Option Jvm.ClassFile.FieldType)) ∈ zz_GW := zz_in 168 (by decide +kernel) (by decide +kernel)
theorem tw_169 : (Jvm.Cond.methodLink "StructureRows$Reduction" (61 : Nat) ({ cls := "StructureRows$Reduction", name := "takeAway", desc := "(IIJ)V" } : Jvm.MethodName)) ∈ zz_GW := zz_in 169 (by decide +kernel) (by decide +kernel)
theorem tw_171 : (Jvm.Cond.instanceMethod ({ cls := "StructureRows$Reduction", name := "takeAway", desc := "(IIJ)V" } : Jvm.MethodName)) ∈ zz_GW := zz_in 171 (by decide +kernel) (by decide +kernel)
theorem tw_172 : (Jvm.Cond.code ({ cls := "StructureRows$Reduction", name := "takeAway", desc := "(IIJ)V" } : Jvm.MethodName) prog_4_method_14_code (6 : Nat) (Option.none : Option Jvm.ClassFile.FieldType)) ∈ zz_GW := zz_in 172 (by decide +kernel) (by decide +kernel)
theorem tw_173 : (Jvm.Cond.methodLink "StructureRows$Reduction" (64 : Nat) ({ cls := "StructureRows$Reduction", name := "swap", desc := "(II)V" } : Jvm.MethodName)) ∈ zz_GW := zz_in 173 (by decide +kernel) (by decide +kernel)
theorem tw_175 : (Jvm.Cond.instanceMethod ({ cls := "StructureRows$Reduction", name := "swap", desc := "(II)V" } : Jvm.MethodName)) ∈ zz_GW := zz_in 175 (by decide +kernel) (by decide +kernel)
theorem tw_176 : (Jvm.Cond.code ({ cls := "StructureRows$Reduction", name := "swap", desc := "(II)V" } : Jvm.MethodName) prog_4_method_15_code (6 : Nat) (Option.none : Option Jvm.ClassFile.FieldType)) ∈ zz_GW := zz_in 176 (by decide +kernel) (by decide +kernel)
theorem tw_177 : (Jvm.Cond.methodLink "StructureRows$Reduction" (67 : Nat) ({ cls := "StructureRows$Reduction", name := "turnSigns", desc := "(I)V" } : Jvm.MethodName)) ∈ zz_GW := zz_in 177 (by decide +kernel) (by decide +kernel)
theorem tw_179 : (Jvm.Cond.instanceMethod ({ cls := "StructureRows$Reduction", name := "turnSigns", desc := "(I)V" } : Jvm.MethodName)) ∈ zz_GW := zz_in 179 (by decide +kernel) (by decide +kernel)
theorem tw_180 : (Jvm.Cond.code ({ cls := "StructureRows$Reduction", name := "turnSigns", desc := "(I)V" } : Jvm.MethodName) prog_4_method_13_code (3 : Nat) (Option.none : Option Jvm.ClassFile.FieldType)) ∈ zz_GW := zz_in 180 (by decide +kernel) (by decide +kernel)
theorem tw_181 : (Jvm.Cond.methodLink "StructureRows$Reduction" (54 : Nat) ({ cls := "StructureRows$Reduction", name := "keepSmall", desc := "(II)V" } : Jvm.MethodName)) ∈ zz_GW := zz_in 181 (by decide +kernel) (by decide +kernel)
theorem tw_183 : (Jvm.Cond.instanceMethod ({ cls := "StructureRows$Reduction", name := "keepSmall", desc := "(II)V" } : Jvm.MethodName)) ∈ zz_GW := zz_in 183 (by decide +kernel) (by decide +kernel)
theorem tw_184 : (Jvm.Cond.code ({ cls := "StructureRows$Reduction", name := "keepSmall", desc := "(II)V" } : Jvm.MethodName) prog_4_method_12_code (8 : Nat) (Option.none : Option Jvm.ClassFile.FieldType)) ∈ zz_GW := zz_in 184 (by decide +kernel) (by decide +kernel)
theorem tw_185 : (Jvm.Cond.methodLink "StructureRows$Reduction" (70 : Nat) ({ cls := "java/lang/Math", name := "floorDiv", desc := "(JJ)J" } : Jvm.MethodName)) ∈ zz_GW := zz_in 185 (by decide +kernel) (by decide +kernel)
theorem tw_186 : (Jvm.Cond.static ({ cls := "java/lang/Math", name := "floorDiv", desc := "(JJ)J" } : Jvm.MethodName)) ∈ zz_GW := zz_in 186 (by decide +kernel) (by decide +kernel)
theorem tw_187 : (Jvm.Cond.code ({ cls := "java/lang/Math", name := "floorDiv", desc := "(JJ)J" } : Jvm.MethodName) prog_12_method_49_code (6 : Nat) (Option.some Jvm.ClassFile.FieldType.long)) ∈ zz_GW := zz_in 187 (by decide +kernel) (by decide +kernel)
theorem tw_188 : (Jvm.Cond.methodLink "StructureRows$Reduction" (58 : Nat) ({ cls := "StructureRows$Reduction", name := "moveAhead", desc := "(III)V" } : Jvm.MethodName)) ∈ zz_GW := zz_in 188 (by decide +kernel) (by decide +kernel)
theorem tw_190 : (Jvm.Cond.instanceMethod ({ cls := "StructureRows$Reduction", name := "moveAhead", desc := "(III)V" } : Jvm.MethodName)) ∈ zz_GW := zz_in 190 (by decide +kernel) (by decide +kernel)
theorem tw_191 : (Jvm.Cond.code ({ cls := "StructureRows$Reduction", name := "moveAhead", desc := "(III)V" } : Jvm.MethodName) prog_4_method_11_code (5 : Nat) (Option.none : Option Jvm.ClassFile.FieldType)) ∈ zz_GW := zz_in 191 (by decide +kernel) (by decide +kernel)
theorem tw_387 : (Jvm.Cond.instanceMethod ({ cls := "StructureRows$Reduction", name := "image", desc := "(II)J" } : Jvm.MethodName)) ∈ zz_GW := zz_in 387 (by decide +kernel) (by decide +kernel)
theorem tw_388 : (Jvm.Cond.selects "StructureRows$Reduction" ({ cls := "StructureRows$Reduction", name := "image", desc := "(II)J" } : Jvm.MethodName) ({ cls := "StructureRows$Reduction", name := "image", desc := "(II)J" } : Jvm.MethodName)) ∈ zz_GW := zz_in 388 (by decide +kernel) (by decide +kernel)
theorem tw_389 : (Jvm.Cond.code ({ cls := "StructureRows$Reduction", name := "image", desc := "(II)J" } : Jvm.MethodName) prog_4_method_6_code (3 : Nat) (Option.some Jvm.ClassFile.FieldType.long)) ∈ zz_GW := zz_in 389 (by decide +kernel) (by decide +kernel)
theorem tw_408 : (Jvm.Cond.methodLink "StructureRows$Minors" (19 : Nat) ({ cls := "java/lang/Integer", name := "bitCount", desc := "(I)I" } : Jvm.MethodName)) ∈ zz_GW := zz_in 408 (by decide +kernel) (by decide +kernel)
theorem tw_409 : (Jvm.Cond.static ({ cls := "java/lang/Integer", name := "bitCount", desc := "(I)I" } : Jvm.MethodName)) ∈ zz_GW := zz_in 409 (by decide +kernel) (by decide +kernel)
theorem tw_410 : (Jvm.Cond.code ({ cls := "java/lang/Integer", name := "bitCount", desc := "(I)I" } : Jvm.MethodName) prog_11_method_49_code (1 : Nat) (Option.some Jvm.ClassFile.FieldType.int)) ∈ zz_GW := zz_in 410 (by decide +kernel) (by decide +kernel)
theorem tw_411 : (Jvm.Cond.constant "java/lang/Integer" (265 : Nat) (1431655765 : Int32)) ∈ zz_GW := zz_in 411 (by decide +kernel) (by decide +kernel)
theorem tw_412 : (Jvm.Cond.constant "java/lang/Integer" (266 : Nat) (858993459 : Int32)) ∈ zz_GW := zz_in 412 (by decide +kernel) (by decide +kernel)
theorem tw_413 : (Jvm.Cond.constant "java/lang/Integer" (267 : Nat) (252645135 : Int32)) ∈ zz_GW := zz_in 413 (by decide +kernel) (by decide +kernel)
theorem tw_414 : (Jvm.Cond.methodLink "StructureRows$Minors" (25 : Nat) ({ cls := "StructureRows$Minors", name := "alongLastRow", desc := "([IIII)J" } : Jvm.MethodName)) ∈ zz_GW := zz_in 414 (by decide +kernel) (by decide +kernel)
theorem tw_416 : (Jvm.Cond.instanceMethod ({ cls := "StructureRows$Minors", name := "alongLastRow", desc := "([IIII)J" } : Jvm.MethodName)) ∈ zz_GW := zz_in 416 (by decide +kernel) (by decide +kernel)
theorem tw_417 : (Jvm.Cond.code ({ cls := "StructureRows$Minors", name := "alongLastRow", desc := "([IIII)J" } : Jvm.MethodName) prog_2_method_3_code (13 : Nat) (Option.some Jvm.ClassFile.FieldType.long)) ∈ zz_GW := zz_in 417 (by decide +kernel) (by decide +kernel)
theorem tw_444 : (Jvm.Cond.methodLink "StructureRows$Power" (28 : Nat) ({ cls := "StructureRows$Reduction", name := "image", desc := "(II)J" } : Jvm.MethodName)) ∈ zz_GW := zz_in 444 (by decide +kernel) (by decide +kernel)
theorem tw_483 : (Jvm.Cond.fieldLink "StructureRowsModel" (42 : Nat) "StructureRowsModel" "code" "I") ∈ zz_GW := zz_in 483 (by decide +kernel) (by decide +kernel)
theorem tw_484 : (Jvm.Cond.fieldLink "StructureRowsModel" (46 : Nat) "StructureRowsModel" "elements" "I") ∈ zz_GW := zz_in 484 (by decide +kernel) (by decide +kernel)
theorem tw_485 : (Jvm.Cond.fieldLink "StructureRowsModel" (7 : Nat) "StructureRowsModel" "numbers" "[I") ∈ zz_GW := zz_in 485 (by decide +kernel) (by decide +kernel)
theorem tw_486 : (Jvm.Cond.fieldLink "StructureRowsModel" (13 : Nat) "StructureRowsModel" "stair" "[J") ∈ zz_GW := zz_in 486 (by decide +kernel) (by decide +kernel)
theorem tw_487 : (Jvm.Cond.fieldLink "StructureRowsModel" (17 : Nat) "StructureRowsModel" "begins" "[Z") ∈ zz_GW := zz_in 487 (by decide +kernel) (by decide +kernel)
theorem tw_488 : (Jvm.Cond.fieldLink "StructureRowsModel" (21 : Nat) "StructureRowsModel" "row" "[J") ∈ zz_GW := zz_in 488 (by decide +kernel) (by decide +kernel)
theorem tw_489 : (Jvm.Cond.fieldLink "StructureRowsModel" (24 : Nat) "StructureRowsModel" "matrix" "[J") ∈ zz_GW := zz_in 489 (by decide +kernel) (by decide +kernel)
theorem tw_490 : (Jvm.Cond.fieldLink "StructureRowsModel" (70 : Nat) "StructureRowsModel" "many" "I") ∈ zz_GW := zz_in 490 (by decide +kernel) (by decide +kernel)
theorem tw_491 : (Jvm.Cond.fieldLink "StructureRowsModel" (27 : Nat) "StructureRowsModel" "told" "[J") ∈ zz_GW := zz_in 491 (by decide +kernel) (by decide +kernel)
theorem tw_492 : (Jvm.Cond.fieldLink "StructureRowsModel" (30 : Nat) "StructureRowsModel" "across" "[J") ∈ zz_GW := zz_in 492 (by decide +kernel) (by decide +kernel)
theorem tw_493 : (Jvm.Cond.fieldLink "StructureRowsModel" (49 : Nat) "StructureRowsModel" "known" "Z") ∈ zz_GW := zz_in 493 (by decide +kernel) (by decide +kernel)
theorem tw_494 : (Jvm.Cond.fieldLink "StructureRowsModel" (33 : Nat) "StructureRowsModel" "power" "[J") ∈ zz_GW := zz_in 494 (by decide +kernel) (by decide +kernel)
theorem tw_495 : (Jvm.Cond.fieldLink "StructureRowsModel" (36 : Nat) "StructureRowsModel" "left" "[J") ∈ zz_GW := zz_in 495 (by decide +kernel) (by decide +kernel)
theorem tw_496 : (Jvm.Cond.fieldLink "StructureRowsModel" (39 : Nat) "StructureRowsModel" "minors" "[J") ∈ zz_GW := zz_in 496 (by decide +kernel) (by decide +kernel)
theorem tw_539 : (Jvm.Cond.methodLink "StructureRowsModel" (57 : Nat) ({ cls := "StructureRowsModel", name := "isElement", desc := "(I)Z" } : Jvm.MethodName)) ∈ zz_GW := zz_in 539 (by decide +kernel) (by decide +kernel)
theorem tw_541 : (Jvm.Cond.instanceMethod ({ cls := "StructureRowsModel", name := "isElement", desc := "(I)Z" } : Jvm.MethodName)) ∈ zz_GW := zz_in 541 (by decide +kernel) (by decide +kernel)
theorem tw_542 : (Jvm.Cond.code ({ cls := "StructureRowsModel", name := "isElement", desc := "(I)Z" } : Jvm.MethodName) prog_6_method_6_code (2 : Nat) (Option.some Jvm.ClassFile.FieldType.boolean)) ∈ zz_GW := zz_in 542 (by decide +kernel) (by decide +kernel)
theorem tw_543 : (Jvm.Cond.methodLink "StructureRowsModel" (53 : Nat) ({ cls := "StructureRowsModel", name := "in", desc := "(JJJ)Z" } : Jvm.MethodName)) ∈ zz_GW := zz_in 543 (by decide +kernel) (by decide +kernel)
theorem tw_544 : (Jvm.Cond.static ({ cls := "StructureRowsModel", name := "in", desc := "(JJJ)Z" } : Jvm.MethodName)) ∈ zz_GW := zz_in 544 (by decide +kernel) (by decide +kernel)
theorem tw_545 : (Jvm.Cond.code ({ cls := "StructureRowsModel", name := "in", desc := "(JJJ)Z" } : Jvm.MethodName) prog_6_method_4_code (6 : Nat) (Option.some Jvm.ClassFile.FieldType.boolean)) ∈ zz_GW := zz_in 545 (by decide +kernel) (by decide +kernel)
theorem tw_546 : (Jvm.Cond.constantLong "StructureRowsModel" (61 : Nat) (3 : Int64)) ∈ zz_GW := zz_in 546 (by decide +kernel) (by decide +kernel)
theorem tw_547 : (Jvm.Cond.constantLong "StructureRowsModel" (63 : Nat) (-5 : Int64)) ∈ zz_GW := zz_in 547 (by decide +kernel) (by decide +kernel)
theorem tw_548 : (Jvm.Cond.constantLong "StructureRowsModel" (65 : Nat) (5 : Int64)) ∈ zz_GW := zz_in 548 (by decide +kernel) (by decide +kernel)
theorem tw_569 : (Jvm.Cond.methodLink "StructureRowsModel" (86 : Nat) ({ cls := "StructureRowsModel", name := "findGroup", desc := "()V" } : Jvm.MethodName)) ∈ zz_GW := zz_in 569 (by decide +kernel) (by decide +kernel)
theorem tw_571 : (Jvm.Cond.instanceMethod ({ cls := "StructureRowsModel", name := "findGroup", desc := "()V" } : Jvm.MethodName)) ∈ zz_GW := zz_in 571 (by decide +kernel) (by decide +kernel)
theorem tw_572 : (Jvm.Cond.code ({ cls := "StructureRowsModel", name := "findGroup", desc := "()V" } : Jvm.MethodName) prog_6_method_16_code (3 : Nat) (Option.none : Option Jvm.ClassFile.FieldType)) ∈ zz_GW := zz_in 572 (by decide +kernel) (by decide +kernel)
theorem tw_573 : (Jvm.Cond.methodLink "StructureRowsModel" (73 : Nat) ({ cls := "StructureRowsModel", name := "start", desc := "()V" } : Jvm.MethodName)) ∈ zz_GW := zz_in 573 (by decide +kernel) (by decide +kernel)
theorem tw_575 : (Jvm.Cond.instanceMethod ({ cls := "StructureRowsModel", name := "start", desc := "()V" } : Jvm.MethodName)) ∈ zz_GW := zz_in 575 (by decide +kernel) (by decide +kernel)
theorem tw_576 : (Jvm.Cond.code ({ cls := "StructureRowsModel", name := "start", desc := "()V" } : Jvm.MethodName) prog_6_method_12_code (2 : Nat) (Option.none : Option Jvm.ClassFile.FieldType)) ∈ zz_GW := zz_in 576 (by decide +kernel) (by decide +kernel)
theorem tw_577 : (Jvm.Cond.methodLink "StructureRowsModel" (76 : Nat) ({ cls := "StructureRowsModel", name := "insert", desc := "()V" } : Jvm.MethodName)) ∈ zz_GW := zz_in 577 (by decide +kernel) (by decide +kernel)
theorem tw_579 : (Jvm.Cond.instanceMethod ({ cls := "StructureRowsModel", name := "insert", desc := "()V" } : Jvm.MethodName)) ∈ zz_GW := zz_in 579 (by decide +kernel) (by decide +kernel)
theorem tw_580 : (Jvm.Cond.code ({ cls := "StructureRowsModel", name := "insert", desc := "()V" } : Jvm.MethodName) prog_6_method_13_code (7 : Nat) (Option.none : Option Jvm.ClassFile.FieldType)) ∈ zz_GW := zz_in 580 (by decide +kernel) (by decide +kernel)
theorem tw_581 : (Jvm.Cond.methodLink "StructureRowsModel" (67 : Nat) ({ cls := "StructureRowsModel", name := "settle", desc := "()V" } : Jvm.MethodName)) ∈ zz_GW := zz_in 581 (by decide +kernel) (by decide +kernel)
theorem tw_583 : (Jvm.Cond.instanceMethod ({ cls := "StructureRowsModel", name := "settle", desc := "()V" } : Jvm.MethodName)) ∈ zz_GW := zz_in 583 (by decide +kernel) (by decide +kernel)
theorem tw_584 : (Jvm.Cond.code ({ cls := "StructureRowsModel", name := "settle", desc := "()V" } : Jvm.MethodName) prog_6_method_14_code (10 : Nat) (Option.none : Option Jvm.ClassFile.FieldType)) ∈ zz_GW := zz_in 584 (by decide +kernel) (by decide +kernel)
theorem tw_585 : (Jvm.Cond.methodLink "StructureRowsModel" (79 : Nat) ({ cls := "StructureRowsModel", name := "tell", desc := "(I)V" } : Jvm.MethodName)) ∈ zz_GW := zz_in 585 (by decide +kernel) (by decide +kernel)
theorem tw_587 : (Jvm.Cond.instanceMethod ({ cls := "StructureRowsModel", name := "tell", desc := "(I)V" } : Jvm.MethodName)) ∈ zz_GW := zz_in 587 (by decide +kernel) (by decide +kernel)
theorem tw_588 : (Jvm.Cond.code ({ cls := "StructureRowsModel", name := "tell", desc := "(I)V" } : Jvm.MethodName) prog_6_method_15_code (4 : Nat) (Option.none : Option Jvm.ClassFile.FieldType)) ∈ zz_GW := zz_in 588 (by decide +kernel) (by decide +kernel)
theorem tw_593 : (Jvm.Cond.methodLink "StructureRowsModel" (89 : Nat) ({ cls := "StructureRowsModel", name := "relate", desc := "()V" } : Jvm.MethodName)) ∈ zz_GW := zz_in 593 (by decide +kernel) (by decide +kernel)
theorem tw_595 : (Jvm.Cond.instanceMethod ({ cls := "StructureRowsModel", name := "relate", desc := "()V" } : Jvm.MethodName)) ∈ zz_GW := zz_in 595 (by decide +kernel) (by decide +kernel)
theorem tw_596 : (Jvm.Cond.code ({ cls := "StructureRowsModel", name := "relate", desc := "()V" } : Jvm.MethodName) prog_6_method_18_code (2 : Nat) (Option.none : Option Jvm.ClassFile.FieldType)) ∈ zz_GW := zz_in 596 (by decide +kernel) (by decide +kernel)
theorem tw_597 : (Jvm.Cond.methodLink "StructureRowsModel" (83 : Nat) ({ cls := "StructureRowsModel", name := "findRelations", desc := "(I)V" } : Jvm.MethodName)) ∈ zz_GW := zz_in 597 (by decide +kernel) (by decide +kernel)
theorem tw_599 : (Jvm.Cond.instanceMethod ({ cls := "StructureRowsModel", name := "findRelations", desc := "(I)V" } : Jvm.MethodName)) ∈ zz_GW := zz_in 599 (by decide +kernel) (by decide +kernel)
theorem tw_600 : (Jvm.Cond.code ({ cls := "StructureRowsModel", name := "findRelations", desc := "(I)V" } : Jvm.MethodName) prog_6_method_17_code (4 : Nat) (Option.none : Option Jvm.ClassFile.FieldType)) ∈ zz_GW := zz_in 600 (by decide +kernel) (by decide +kernel)
theorem tw_605 : (Jvm.Cond.methodLink "StructureRowsModel" (92 : Nat) ({ cls := "StructureRowsModel", name := "toldAt", desc := "(IIZ)J" } : Jvm.MethodName)) ∈ zz_GW := zz_in 605 (by decide +kernel) (by decide +kernel)
theorem tw_607 : (Jvm.Cond.instanceMethod ({ cls := "StructureRowsModel", name := "toldAt", desc := "(IIZ)J" } : Jvm.MethodName)) ∈ zz_GW := zz_in 607 (by decide +kernel) (by decide +kernel)
theorem tw_608 : (Jvm.Cond.code ({ cls := "StructureRowsModel", name := "toldAt", desc := "(IIZ)J" } : Jvm.MethodName) prog_6_method_20_code (4 : Nat) (Option.some Jvm.ClassFile.FieldType.long)) ∈ zz_GW := zz_in 608 (by decide +kernel) (by decide +kernel)
theorem tw_617 : (Jvm.Cond.methodLink "StructureRowsModel" (96 : Nat) ({ cls := "StructureRowsModel", name := "findHull", desc := "()V" } : Jvm.MethodName)) ∈ zz_GW := zz_in 617 (by decide +kernel) (by decide +kernel)
theorem tw_619 : (Jvm.Cond.instanceMethod ({ cls := "StructureRowsModel", name := "findHull", desc := "()V" } : Jvm.MethodName)) ∈ zz_GW := zz_in 619 (by decide +kernel) (by decide +kernel)
theorem tw_620 : (Jvm.Cond.code ({ cls := "StructureRowsModel", name := "findHull", desc := "()V" } : Jvm.MethodName) prog_6_method_19_code (2 : Nat) (Option.none : Option Jvm.ClassFile.FieldType)) ∈ zz_GW := zz_in 620 (by decide +kernel) (by decide +kernel)
theorem tw_625 : (Jvm.Cond.methodLink "StructureRowsModel" (111 : Nat) ({ cls := "StructureRowsModel", name := "common", desc := "(I)J" } : Jvm.MethodName)) ∈ zz_GW := zz_in 625 (by decide +kernel) (by decide +kernel)
theorem tw_627 : (Jvm.Cond.instanceMethod ({ cls := "StructureRowsModel", name := "common", desc := "(I)J" } : Jvm.MethodName)) ∈ zz_GW := zz_in 627 (by decide +kernel) (by decide +kernel)
theorem tw_628 : (Jvm.Cond.code ({ cls := "StructureRowsModel", name := "common", desc := "(I)J" } : Jvm.MethodName) prog_6_method_28_code (6 : Nat) (Option.some Jvm.ClassFile.FieldType.long)) ∈ zz_GW := zz_in 628 (by decide +kernel) (by decide +kernel)
theorem tw_629 : (Jvm.Cond.methodLink "StructureRowsModel" (99 : Nat) ({ cls := "StructureRowsModel", name := "bits", desc := "(I)I" } : Jvm.MethodName)) ∈ zz_GW := zz_in 629 (by decide +kernel) (by decide +kernel)
theorem tw_630 : (Jvm.Cond.static ({ cls := "StructureRowsModel", name := "bits", desc := "(I)I" } : Jvm.MethodName)) ∈ zz_GW := zz_in 630 (by decide +kernel) (by decide +kernel)
theorem tw_631 : (Jvm.Cond.code ({ cls := "StructureRowsModel", name := "bits", desc := "(I)I" } : Jvm.MethodName) prog_6_method_27_code (1 : Nat) (Option.some Jvm.ClassFile.FieldType.int)) ∈ zz_GW := zz_in 631 (by decide +kernel) (by decide +kernel)
theorem tw_632 : (Jvm.Cond.methodLink "StructureRowsModel" (103 : Nat) ({ cls := "StructureRowsModel", name := "minor", desc := "(II)J" } : Jvm.MethodName)) ∈ zz_GW := zz_in 632 (by decide +kernel) (by decide +kernel)
theorem tw_634 : (Jvm.Cond.instanceMethod ({ cls := "StructureRowsModel", name := "minor", desc := "(II)J" } : Jvm.MethodName)) ∈ zz_GW := zz_in 634 (by decide +kernel) (by decide +kernel)
theorem tw_635 : (Jvm.Cond.code ({ cls := "StructureRowsModel", name := "minor", desc := "(II)J" } : Jvm.MethodName) prog_6_method_29_code (9 : Nat) (Option.some Jvm.ClassFile.FieldType.long)) ∈ zz_GW := zz_in 635 (by decide +kernel) (by decide +kernel)
theorem tw_636 : (Jvm.Cond.methodLink "StructureRowsModel" (107 : Nat) ({ cls := "StructureRowsModel", name := "divisor", desc := "(JJ)J" } : Jvm.MethodName)) ∈ zz_GW := zz_in 636 (by decide +kernel) (by decide +kernel)
theorem tw_637 : (Jvm.Cond.static ({ cls := "StructureRowsModel", name := "divisor", desc := "(JJ)J" } : Jvm.MethodName)) ∈ zz_GW := zz_in 637 (by decide +kernel) (by decide +kernel)
theorem tw_638 : (Jvm.Cond.code ({ cls := "StructureRowsModel", name := "divisor", desc := "(JJ)J" } : Jvm.MethodName) prog_6_method_26_code (10 : Nat) (Option.some Jvm.ClassFile.FieldType.long)) ∈ zz_GW := zz_in 638 (by decide +kernel) (by decide +kernel)
theorem tw_643 : (Jvm.Cond.methodLink "StructureRowsModel" (115 : Nat) ({ cls := "StructureRowsModel", name := "isIn", desc := "(IIIII)Z" } : Jvm.MethodName)) ∈ zz_GW := zz_in 643 (by decide +kernel) (by decide +kernel)
theorem tw_645 : (Jvm.Cond.instanceMethod ({ cls := "StructureRowsModel", name := "isIn", desc := "(IIIII)Z" } : Jvm.MethodName)) ∈ zz_GW := zz_in 645 (by decide +kernel) (by decide +kernel)
theorem tw_646 : (Jvm.Cond.code ({ cls := "StructureRowsModel", name := "isIn", desc := "(IIIII)Z" } : Jvm.MethodName) prog_6_method_31_code (9 : Nat) (Option.some Jvm.ClassFile.FieldType.boolean)) ∈ zz_GW := zz_in 646 (by decide +kernel) (by decide +kernel)
theorem tw_651 : (Jvm.Cond.methodLink "StructureRowsModel" (119 : Nat) ({ cls := "StructureRowsModel", name := "raise", desc := "(I)I" } : Jvm.MethodName)) ∈ zz_GW := zz_in 651 (by decide +kernel) (by decide +kernel)
theorem tw_653 : (Jvm.Cond.instanceMethod ({ cls := "StructureRowsModel", name := "raise", desc := "(I)I" } : Jvm.MethodName)) ∈ zz_GW := zz_in 653 (by decide +kernel) (by decide +kernel)
theorem tw_654 : (Jvm.Cond.code ({ cls := "StructureRowsModel", name := "raise", desc := "(I)I" } : Jvm.MethodName) prog_6_method_3_code (2 : Nat) (Option.some Jvm.ClassFile.FieldType.int)) ∈ zz_GW := zz_in 654 (by decide +kernel) (by decide +kernel)
