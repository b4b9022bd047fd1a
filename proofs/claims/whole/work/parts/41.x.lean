/-! What calls that throw, and calls of a nest mate's private method, ask of the tables and of the heap. -/
abbrev zz_ise : String := "java/lang/IllegalStateException"
abbrev zz_iob : String := "java/lang/IndexOutOfBoundsException"
abbrev zz_iae : String := "java/lang/IllegalArgumentException"
abbrev zz_sup : List String := ["java/lang/RuntimeException", "java/lang/Exception"]
abbrev zz_cd : MethodName := ⟨"StructureRows", "commonDivisor", "(JJ)J"⟩
def zz_Xn (U : State) : Prop := va_Nw (.methodLinkNest "StructureRows$Minors" 29 zz_cd "StructureRows") U ∧ va_Nw (.methodLinkNest "StructureRows$Power" 48 zz_cd "StructureRows") U
def zz_Xc (U : State) : Prop := va_Nw (.castable zz_ise zz_ise) U ∧ va_Nw (.castable zz_iob zz_iob) U ∧ va_Nw (.castable zz_iae zz_iae) U
def zz_Xd (U : State) : Prop := va_Nw (.declares ⟨"java/lang/RuntimeException", "<init>", "(Ljava/lang/String;)V"⟩) U ∧ va_Nw (.declares ⟨"java/lang/Exception", "<init>", "(Ljava/lang/String;)V"⟩) U ∧ va_Nw (.declares ⟨"java/lang/Throwable", "<init>", "(Ljava/lang/String;)V"⟩) U
def zz_Xs (sa : Nat → Nat) (U : State) : Prop := vk_R "StructureRows" 46 "there are 4 elements" (sa 46) U ∧ vk_R "StructureRows" 138 "no such element, letter, row or factor" (sa 138) U ∧ vk_R "StructureRows" 141 "a number isn't -5 .. 5" (sa 141) U ∧ vk_R "StructureRows" 66 "both are the same element" (sa 66) U ∧ vk_R "StructureRows" 114 "no power is known" (sa 114) U
def zz_Xz (A : Nat → Prop) (U : State) : Prop := vx_Zq Bundle.tN "UNASSIGNED_STACK" Bundle.steD A U U.heap ∧ vx_Zq Bundle.tN "SUPPRESSED_SENTINEL" Bundle.listD A U U.heap
def zz_Xo (U : State) : Prop := va_Nc zz_iae zz_iob U ∧ va_Nc zz_iob zz_ise U
def zz_X (sa : Nat → Nat) (A : Nat → Prop) (U : State) : Prop := zz_Xn U ∧ zz_Xc U ∧ zz_Xd U ∧ zz_Xs sa U ∧ zz_Xo U ∧ zz_Xz A U
theorem zz_X_to {sa : Nat → Nat} {A A' : Nat → Prop} {s U : State} {H : Heap} {locs : List Loc} (h : zz_X sa A s) (hS : va_S A s.heap H locs) (hA : ∀ q, A' q → A q) (hU : U.heap = H) (hW : s.WarmedH U.vm) : zz_X sa A' U := by
  obtain ⟨⟨n1, n2⟩, ⟨c1, c2, c3⟩, ⟨d1, d2, d3⟩, ⟨s1, s2, s3, s4, s5⟩, ⟨o1, o2⟩, z1, z2⟩ := h
  refine ⟨⟨n1.warmM hW, n2.warmM hW⟩, ⟨c1.warmC hW, c2.warmC hW, c3.warmC hW⟩, ⟨d1.warmD hW, d2.warmD hW, d3.warmD hW⟩, ⟨s1.warm hW, s2.warm hW, s3.warm hW, s4.warm hW, s5.warm hW⟩, ⟨o1.moved hW.alike, o2.moved hW.alike⟩, ?_, ?_⟩
  · rw [hU]; exact vx_Zq.moved hW.alike ((z1.kept hS.2.1).narrow hA)
  · rw [hU]; exact vx_Zq.moved hW.alike ((z2.kept hS.2.1).narrow hA)
theorem zz_X_calling {sa : Nat → Nat} {A : Nat → Prop} {U : State} {g : JFrame} {mk : MethodId} {a : Array Value} (h : zz_X sa A U) : zz_X sa A (U.calling g mk a) := by
  obtain ⟨⟨n1, n2⟩, ⟨c1, c2, c3⟩, ⟨d1, d2, d3⟩, ⟨s1, s2, s3, s4, s5⟩, ⟨o1, o2⟩, z1, z2⟩ := h
  have e : (U.calling g mk a).vm = U.vm := rfl
  have e2 : U.vm.Alike (U.calling g mk a).vm := Vm.Alike.refl U.vm
  exact ⟨⟨va_Nw.same rfl e.symm n1, va_Nw.same rfl e.symm n2⟩, ⟨va_Nw.same rfl e.symm c1, va_Nw.same rfl e.symm c2, va_Nw.same rfl e.symm c3⟩, ⟨va_Nw.same rfl e.symm d1, va_Nw.same rfl e.symm d2, va_Nw.same rfl e.symm d3⟩,
    ⟨vk_R.same e s1, vk_R.same e s2, vk_R.same e s3, vk_R.same e s4, vk_R.same e s5⟩, ⟨o1.moved e2, o2.moved e2⟩, vx_Zq.moved e2 z1, vx_Zq.moved e2 z2⟩
theorem zz_blindX {av : List Value} {D : va_G} {cl : List vw_C} {tys : List (ClassId × FieldType)} {ws : va_W} {sz : Nat} {sa : Nat → Nat} {A : Nat → Prop} : FrameBlind (va_Pc av (fun U => U.heap.size = sz ∧ va_P D cl ws U.heap ∧ va_K D cl tys U ∧ va_D (fun _ => True) ws ∧ zz_X sa A U)) :=
  fun a U g mk q => by obtain ⟨q0, q1, qP, qK, qD, qX⟩ := q; exact ⟨q0, q1, qP, va_K.moved (u := U) (U := U.calling g mk a) (Vm.Alike.refl U.vm) qK, qD, zz_X_calling qX⟩
theorem zz_F {A : Nat → Prop} {s t : State} {H : Heap} {locs : List Loc} (hS : va_S A s.heap H locs) (h1 : H.size ≤ t.heap.size) (h2 : ∀ q : Nat, q < H.size → t.heap[q]? = H[q]?) : va_F A s t :=
  ⟨Nat.le_trans hS.1 h1, fun q a b => by rw [h2 q (Nat.lt_of_lt_of_le a hS.1)]; exact hS.2.1 q a b⟩
set_option maxRecDepth 100000 in
theorem zz_hat48 {s : State} {args : Array Value} {sa : Nat → Nat} {A : Nat → Prop} (hts : ∀ w ∈ zz_GW, w.before args s = true) (hX : zz_X sa A s) : ∀ w ∈ vx_atS "StructureRows" 48 zz_ise zz_sup, w.before args s = true :=
  vx_hat (L := vx_atS "StructureRows" 48 zz_ise zz_sup) (B := [.castable zz_ise zz_ise, .declares ⟨"java/lang/RuntimeException", "<init>", "(Ljava/lang/String;)V"⟩, .declares ⟨"java/lang/Exception", "<init>", "(Ljava/lang/String;)V"⟩, .declares ⟨"java/lang/Throwable", "<init>", "(Ljava/lang/String;)V"⟩]) (fun w hw => hts w ((by decide +kernel : ∀ w ∈ (vx_atS "StructureRows" 48 zz_ise zz_sup).filter goodWord, w ∈ zz_GW) w hw)) (by decide +kernel) (vx_c (va_Nw.use rfl hX.2.1.1) (vx_c (va_Nw.use rfl hX.2.2.1.1) (vx_c (va_Nw.use rfl hX.2.2.1.2.1) (vx_c (va_Nw.use rfl hX.2.2.1.2.2) vx_n))))
set_option maxRecDepth 100000 in
theorem zz_hat140 {s : State} {args : Array Value} {sa : Nat → Nat} {A : Nat → Prop} (hts : ∀ w ∈ zz_GW, w.before args s = true) (hX : zz_X sa A s) : ∀ w ∈ vx_atS "StructureRows" 140 zz_iob zz_sup, w.before args s = true :=
  vx_hat (L := vx_atS "StructureRows" 140 zz_iob zz_sup) (B := [.castable zz_iob zz_iob, .declares ⟨"java/lang/RuntimeException", "<init>", "(Ljava/lang/String;)V"⟩, .declares ⟨"java/lang/Exception", "<init>", "(Ljava/lang/String;)V"⟩, .declares ⟨"java/lang/Throwable", "<init>", "(Ljava/lang/String;)V"⟩]) (fun w hw => hts w ((by decide +kernel : ∀ w ∈ (vx_atS "StructureRows" 140 zz_iob zz_sup).filter goodWord, w ∈ zz_GW) w hw)) (by decide +kernel) (vx_c (va_Nw.use rfl hX.2.1.2.1) (vx_c (va_Nw.use rfl hX.2.2.1.1) (vx_c (va_Nw.use rfl hX.2.2.1.2.1) (vx_c (va_Nw.use rfl hX.2.2.1.2.2) vx_n))))
set_option maxRecDepth 100000 in
theorem zz_hat68 {s : State} {args : Array Value} {sa : Nat → Nat} {A : Nat → Prop} (hts : ∀ w ∈ zz_GW, w.before args s = true) (hX : zz_X sa A s) : ∀ w ∈ vx_atS "StructureRows" 68 zz_iae zz_sup, w.before args s = true :=
  vx_hat (L := vx_atS "StructureRows" 68 zz_iae zz_sup) (B := [.castable zz_iae zz_iae, .declares ⟨"java/lang/RuntimeException", "<init>", "(Ljava/lang/String;)V"⟩, .declares ⟨"java/lang/Exception", "<init>", "(Ljava/lang/String;)V"⟩, .declares ⟨"java/lang/Throwable", "<init>", "(Ljava/lang/String;)V"⟩]) (fun w hw => hts w ((by decide +kernel : ∀ w ∈ (vx_atS "StructureRows" 68 zz_iae zz_sup).filter goodWord, w ∈ zz_GW) w hw)) (by decide +kernel) (vx_c (va_Nw.use rfl hX.2.1.2.2) (vx_c (va_Nw.use rfl hX.2.2.1.1) (vx_c (va_Nw.use rfl hX.2.2.1.2.1) (vx_c (va_Nw.use rfl hX.2.2.1.2.2) vx_n))))
