abbrev rm_RD_cell : Room := { frames := 0, cells := 0, slots := 0, locals := 0 }
abbrev qz_RD_cell (dC : Nat → ClassId) (dI : Nat → Nat → Nat) (q_this q_cells q_beginnings : Nat) (k_cells : ClassId) (x_height : Int32) (x_width : Int32) (x_imageHeight : Int32) (x_cells : Nat → Int64) (post : Int64 → Prop) (A : Nat → Prop) : Array Value → State → Outcome → State → Prop := va_Ql (fun (r : Int64) (_ : Unit) => post r) (fun (u : Unit) (t : State) => va_P (dC, dI) zz_cl [(q_this, .inr (2, [.ref q_cells, .ref q_beginnings, .int x_height, .int x_width, .int x_imageHeight])), (q_cells, .inl (k_cells, 32, .inr (.inl x_cells)))] t.heap ∧ va_K (dC, dI) zz_cl [(k_cells, .long)] t ∧ va_D A [(q_this, .inr (2, [.ref q_cells, .ref q_beginnings, .int x_height, .int x_width, .int x_imageHeight])), (q_cells, .inl (k_cells, 32, .inr (.inl x_cells)))]) A
def cx_RD_cell (p : Program) (s : State) (m : MethodId) (args : Array Value) (meth : Method) (c : Code) : Prop := p.tables.exec = Jvm.exec ∧ c.code = b_RD_cell ∧ meth.sig.returnType = (some .long) ∧ c.maxLocals = 3 ∧ s.vm.findClass "StructureRows$Reduction" = some m.cls ∧ (∀ w ∈ zz_GW, w.before args s = true) ∧ meth.locks = false
def wp_RD_cell (x_height : Int32) (x_width : Int32) (x_imageHeight : Int32) (x_cells : Nat → Int64) (a_0 : Int32) (a_1 : Int32) (post : Int64 → Prop) : Prop := vp_in ((a_0 * 8) + a_1) 32 ∧ (post (x_cells ((a_0 * 8) + a_1).toNatClampNeg))
set_option maxHeartbeats 4000000 in
set_option maxRecDepth 100000 in
theorem c_RD_cell (l : Launch) (dC : Nat → ClassId) (dI : Nat → Nat → Nat) (q_this q_cells q_beginnings : Nat) (k_cells : ClassId) (sz : Nat) (x_height : Int32) (x_width : Int32) (x_imageHeight : Int32) (x_cells : Nat → Int64) (a_0 : Int32) (a_1 : Int32) (post : Int64 → Prop) (hw : wp_RD_cell x_height x_width x_imageHeight x_cells a_0 a_1 post) : Met l y_RD_cell (zz_w y_RD_cell b_RD_cell 3 (some .long)) rm_RD_cell (va_Pc [.ref q_this, .int a_0, .int a_1] (fun U => U.heap.size = sz ∧ va_P (dC, dI) zz_cl [(q_this, .inr (2, [.ref q_cells, .ref q_beginnings, .int x_height, .int x_width, .int x_imageHeight])), (q_cells, .inl (k_cells, 32, .inr (.inl x_cells)))] U.heap ∧ va_K (dC, dI) zz_cl [(k_cells, .long)] U ∧ va_D (fun _ => True) [(q_this, .inr (2, [.ref q_cells, .ref q_beginnings, .int x_height, .int x_width, .int x_imageHeight])), (q_cells, .inl (k_cells, 32, .inr (.inl x_cells)))])) (qz_RD_cell dC dI q_this q_cells q_beginnings k_cells x_height x_width x_imageHeight x_cells post (va_A [(q_this, .inr (2, [.ref q_cells, .ref q_beginnings, .int x_height, .int x_width, .int x_imageHeight])), (q_cells, .inl (k_cells, 32, .inr (.inl x_cells)))] sz)) 0 0 (va_A [(q_this, .inr (2, [.ref q_cells, .ref q_beginnings, .int x_height, .int x_width, .int x_imageHeight])), (q_cells, .inl (k_cells, 32, .inr (.inl x_cells)))] sz) := by
  refine Met.ofW (cc := b_RD_cell) (maxL := 3) (ret := (some .long)) (by decide) rfl ?_
  intro p e s m args below meth c s₁ B hml hv
  obtain ⟨rfl, hsz, hP, hK, hD0⟩ := hv
  have hx := B.exec
  have hb := B.bytes
  have hr := B.returns
  have hts0 := atoms_spec (ws := (zz_w y_RD_cell b_RD_cell 3 (some .long))) B.pre
  have hts : ∀ w ∈ zz_GW, w.before _ s = true := fun w h => hts0 w (List.mem_cons_of_mem _ h)
  clear hts0
  have hown : s.vm.findClass "StructureRows$Reduction" = some m.cls := findClass_of_methodNamed B.named
  have hlocks := B.notSynchronized
  have C0 : cx_RD_cell p s m _ meth c := ⟨hx, hb, hr, hml, hown, hts, hlocks⟩
  subst hsz
  have hD := hD0.self (sz := s.heap.size)
  generalize hAe : va_A [(q_this, .inr (2, [.ref q_cells, .ref q_beginnings, .int x_height, .int x_width, .int x_imageHeight])), (q_cells, .inl (k_cells, 32, .inr (.inl x_cells)))] s.heap.size = A at hD ⊢
  have hA : ∀ q : Nat, s.heap.size ≤ q → A q := fun q h => by rw [← hAe]; exact Or.inr h
  clear hAe hD0
  have hS : va_S A s.heap s.heap [] := va_S.rf
  have hl := lv_entry ([.ref q_this, .int a_0, .int a_1]) (n := 3) (Nat.le_of_ble_eq_true rfl)
  rw [lg_entry_eq]
  generalize (lg_sl ([.ref q_this, .int a_0, .int a_1]) ++ List.replicate (3 - (lg_sl ([.ref q_this, .int a_0, .int a_1])).length) Slot.unset).toArray = ls at hl ⊢
  replace hl : lv_has ls 3 [(0, .ref q_this), (1, .int a_0), (2, .int a_1)] := hl
  unfold wp_RD_cell at hw
  change W p l e rm_RD_cell s m _ below meth c s.heap [] 0 0 _ _
  refine lv_aload_n hx hb d_RD_cell_0 rfl (lv_at hl 0 rfl) ?_
  refine va_get (D := (dC, dI)) (ci := 2) (v := .ref q_cells) (C := "StructureRows$Reduction") (T := T_RD) (N := 5) hx hb hts in_RD hown hK hP 0 rfl rfl 0 (by decide) (hts _ tw_58) (fun _ h9 => h9) rfl d_RD_cell_1 ?_
  refine lv_iload_n hx hb d_RD_cell_4 rfl (lv_at hl 1 rfl) ?_
  refine lv_bipush (v := 8) hx hb d_RD_cell_5 (by decide) ?_
  refine lv_imul hx hb d_RD_cell_7 ?_
  refine lv_iload_n hx hb d_RD_cell_8 rfl (lv_at hl 2 rfl) ?_
  refine lv_iadd hx hb d_RD_cell_9 ?_
  obtain ⟨h_1, hw⟩ := hw
  refine va_lald hx hb hK hP 1 0 rfl rfl h_1 d_RD_cell_10 ?_
  exact W.lret (v := x_cells ((a_0 * 8) + a_1).toNatClampNeg) hx hb hr (fun t ht hW => ⟨⟨x_cells ((a_0 * 8) + a_1).toNatClampNeg, (), rfl, hw, by rw [ht]; exact hP, va_K.moved hW.alike hK, hD⟩, hS.F ht⟩) hS.2.2 d_RD_cell_11
set_option maxHeartbeats 4000000 in
set_option maxRecDepth 100000 in
theorem go_RD_cell {p : Program} {l : Launch} {e : Env} {R : Room} {s : State} {m : MethodId} {args : Array Value} {below : List Frame} {meth : Method} {c : Code} {H : Heap} {locs : List Loc} {cells slots : Nat} {Q : State → Prop} {cc : ByteArray} {nL : Nat} {Ts : List Cond} {own : String} {index : Nat} {A0 : Nat → Prop} {H0 : Heap} {dC : Nat → ClassId} {dI : Nat → Nat → Nat} {ws wr : va_W} {tys : List (ClassId × FieldType)} {q_this q_cells q_beginnings : Nat} {k_cells : ClassId} {x_height : Int32} {x_width : Int32} {x_imageHeight : Int32} {x_cells : Nat → Int64} {a_0 : Int32} {a_1 : Int32} {post : Int64 → Prop} (S : CallFix p m c cc nL s args Ts own) (cw : CallW R s args own "StructureRows$Reduction" index y_RD_cell b_RD_cell 3 (some .long) (zz_w y_RD_cell b_RD_cell 3 (some .long)) rm_RD_cell 0 0 2) (hK : va_K (dC, dI) zz_cl tys s) (hP : va_P (dC, dI) zz_cl ws H) (hD : va_D A0 ws) (hS : va_S A0 H0 H locs) (hA : ∀ q, H0.size ≤ q → A0 q) (isC isR kt : List Nat) (h1 : isC.filterMap (fun i => ws[i]?) = [(q_this, .inr (2, [.ref q_cells, .ref q_beginnings, .int x_height, .int x_width, .int x_imageHeight])), (q_cells, .inl (k_cells, 32, .inr (.inl x_cells)))]) (h2 : isC.map (fun i => ws[i]?) = ([(q_this, .inr (2, [.ref q_cells, .ref q_beginnings, .int x_height, .int x_width, .int x_imageHeight])), (q_cells, .inl (k_cells, 32, .inr (.inl x_cells)))] : va_W).map some) (h3 : va_nd isC = true) (h4 : isR.map (fun i => ws[i]?) = wr.map some) (h5 : va_nd isR = true) (h6 : ∀ i ∈ isR, i ∉ isC) (h7 : kt.filterMap (fun i => tys[i]?) = [(k_cells, .long)]) (hw : wp_RD_cell x_height x_width x_imageHeight x_cells a_0 a_1 post) {pc : Nat} {ls : Array Slot} {rest : List Value} (hsize : ls.size = nL) (hrest : (rest.map fun v => v.category).sum ≤ 8) (hdg : decode cc pc = .ok (.invokevirtual index, 3)) (hf : cells + 0 ≤ R.cells ∧ slots + 0 ≤ R.slots) (kk : ∀ (r : Int64) (H1 : Heap) (locs1 : List Loc), post r → va_P (dC, dI) zz_cl (wr ++ [(q_this, .inr (2, [.ref q_cells, .ref q_beginnings, .int x_height, .int x_width, .int x_imageHeight])), (q_cells, .inl (k_cells, 32, .inr (.inl x_cells)))]) H1 → va_D A0 (wr ++ [(q_this, .inr (2, [.ref q_cells, .ref q_beginnings, .int x_height, .int x_width, .int x_imageHeight])), (q_cells, .inl (k_cells, 32, .inr (.inl x_cells)))]) → va_S A0 H0 H1 locs1 → W p l e R s m args below meth c H1 locs1 (cells + 0) (slots + 0) Q (F0 m (pc + 3) ls (.long r :: rest))) : W p l e R s m args below meth c H locs cells slots Q (F0 m pc ls (.int a_1 :: .int a_0 :: .ref q_this :: rest)) := by
  have hPc := hP.sub (ws' := [(q_this, .inr (2, [.ref q_cells, .ref q_beginnings, .int x_height, .int x_width, .int x_imageHeight])), (q_cells, .inl (k_cells, 32, .inr (.inl x_cells)))]) isC h1
  have hDc := hD.sub (ws' := [(q_this, .inr (2, [.ref q_cells, .ref q_beginnings, .int x_height, .int x_width, .int x_imageHeight])), (q_cells, .inl (k_cells, 32, .inr (.inl x_cells)))]) isC h3 h2
  have hKc := hK.sub (tys' := [(k_cells, .long)]) kt h7
  have hFc := va_free (wc := [(q_this, .inr (2, [.ref q_cells, .ref q_beginnings, .int x_height, .int x_width, .int x_imageHeight])), (q_cells, .inl (k_cells, 32, .inr (.inl x_cells)))]) hD hS hA isC h2
  refine va_calll (va_runV (As := [.int a_0, .int a_1]) (rest := rest) S (c_RD_cell l dC dI q_this q_cells q_beginnings k_cells H.size x_height x_width x_imageHeight x_cells a_0 a_1 post hw) cw ⟨zz_blind, va_recv hKc hPc (ci := 2) (q0 := 0) rfl rfl, fun U hU hW => ⟨rfl, by rw [hU], by rw [hU]; exact hPc, va_K.moved hW.alike hKc, hDc.weaken (fun _ _ _ _ => trivial)⟩⟩ rfl rfl hsize rfl (lv_room hrest) hdg hf) hS (fun q _ h => hFc q h) hFc (fun r u t H1 locs ht hvm hw hB hz1 hk1 hS => ?_)
  obtain ⟨hP1, hK1, hD1⟩ := hB
  rw [ht] at hP1
  obtain ⟨hP2, hD2⟩ := va_join (wr := wr) (w1 := [(q_this, .inr (2, [.ref q_cells, .ref q_beginnings, .int x_height, .int x_width, .int x_imageHeight])), (q_cells, .inl (k_cells, 32, .inr (.inl x_cells)))]) hP hD isC isR h2 h4 h5 h6 hk1 hFc hP1 hD1
  exact kk r H1 locs hw hP2 hD2 hS
abbrev rm_RD_set : Room := { frames := 0, cells := 0, slots := 0, locals := 0 }
abbrev qz_RD_set (dC : Nat → ClassId) (dI : Nat → Nat → Nat) (q_this q_cells q_beginnings : Nat) (k_cells : ClassId) (x_height : Int32) (x_width : Int32) (x_imageHeight : Int32) (post : (Nat → Int64) → Prop) (A : Nat → Prop) : Array Value → State → Outcome → State → Prop := va_Qv (fun (u : (Nat → Int64)) => post u) (fun (u : (Nat → Int64)) (t : State) => va_P (dC, dI) zz_cl [(q_this, .inr (2, [.ref q_cells, .ref q_beginnings, .int x_height, .int x_width, .int x_imageHeight])), (q_cells, .inl (k_cells, 32, .inr (.inl u)))] t.heap ∧ va_K (dC, dI) zz_cl [(k_cells, .long)] t ∧ va_D A [(q_this, .inr (2, [.ref q_cells, .ref q_beginnings, .int x_height, .int x_width, .int x_imageHeight])), (q_cells, .inl (k_cells, 32, .inr (.inl u)))]) A
def cx_RD_set (p : Program) (s : State) (m : MethodId) (args : Array Value) (meth : Method) (c : Code) : Prop := p.tables.exec = Jvm.exec ∧ c.code = b_RD_set ∧ meth.sig.returnType = none ∧ c.maxLocals = 5 ∧ s.vm.findClass "StructureRows$Reduction" = some m.cls ∧ (∀ w ∈ zz_GW, w.before args s = true) ∧ meth.locks = false
def wp_RD_set (x_height : Int32) (x_width : Int32) (x_imageHeight : Int32) (x_cells : Nat → Int64) (a_0 : Int32) (a_1 : Int32) (a_2 : Int64) (post : (Nat → Int64) → Prop) : Prop := vp_in ((a_0 * 8) + a_1) 32 ∧ ∀ w_2 : Nat → Int64, w_2 = vp_updL x_cells ((a_0 * 8) + a_1).toNatClampNeg a_2 → (post w_2)
set_option maxHeartbeats 4000000 in
set_option maxRecDepth 100000 in
theorem c_RD_set (l : Launch) (dC : Nat → ClassId) (dI : Nat → Nat → Nat) (q_this q_cells q_beginnings : Nat) (k_cells : ClassId) (sz : Nat) (x_height : Int32) (x_width : Int32) (x_imageHeight : Int32) (x_cells : Nat → Int64) (a_0 : Int32) (a_1 : Int32) (a_2 : Int64) (post : (Nat → Int64) → Prop) (hw : wp_RD_set x_height x_width x_imageHeight x_cells a_0 a_1 a_2 post) : Met l y_RD_set (zz_w y_RD_set b_RD_set 5 none) rm_RD_set (va_Pc [.ref q_this, .int a_0, .int a_1, .long a_2] (fun U => U.heap.size = sz ∧ va_P (dC, dI) zz_cl [(q_this, .inr (2, [.ref q_cells, .ref q_beginnings, .int x_height, .int x_width, .int x_imageHeight])), (q_cells, .inl (k_cells, 32, .inr (.inl x_cells)))] U.heap ∧ va_K (dC, dI) zz_cl [(k_cells, .long)] U ∧ va_D (fun _ => True) [(q_this, .inr (2, [.ref q_cells, .ref q_beginnings, .int x_height, .int x_width, .int x_imageHeight])), (q_cells, .inl (k_cells, 32, .inr (.inl x_cells)))])) (qz_RD_set dC dI q_this q_cells q_beginnings k_cells x_height x_width x_imageHeight post (va_A [(q_this, .inr (2, [.ref q_cells, .ref q_beginnings, .int x_height, .int x_width, .int x_imageHeight])), (q_cells, .inl (k_cells, 32, .inr (.inl x_cells)))] sz)) 0 0 (va_A [(q_this, .inr (2, [.ref q_cells, .ref q_beginnings, .int x_height, .int x_width, .int x_imageHeight])), (q_cells, .inl (k_cells, 32, .inr (.inl x_cells)))] sz) := by
  refine Met.ofW (cc := b_RD_set) (maxL := 5) (ret := none) (by decide) rfl ?_
  intro p e s m args below meth c s₁ B hml hv
  obtain ⟨rfl, hsz, hP, hK, hD0⟩ := hv
  have hx := B.exec
  have hb := B.bytes
  have hr := B.returns
  have hts0 := atoms_spec (ws := (zz_w y_RD_set b_RD_set 5 none)) B.pre
  have hts : ∀ w ∈ zz_GW, w.before _ s = true := fun w h => hts0 w (List.mem_cons_of_mem _ h)
  clear hts0
  have hown : s.vm.findClass "StructureRows$Reduction" = some m.cls := findClass_of_methodNamed B.named
  have hlocks := B.notSynchronized
  have C0 : cx_RD_set p s m _ meth c := ⟨hx, hb, hr, hml, hown, hts, hlocks⟩
  subst hsz
  have hD := hD0.self (sz := s.heap.size)
  generalize hAe : va_A [(q_this, .inr (2, [.ref q_cells, .ref q_beginnings, .int x_height, .int x_width, .int x_imageHeight])), (q_cells, .inl (k_cells, 32, .inr (.inl x_cells)))] s.heap.size = A at hD ⊢
  have hA : ∀ q : Nat, s.heap.size ≤ q → A q := fun q h => by rw [← hAe]; exact Or.inr h
  clear hAe hD0
  have hS : va_S A s.heap s.heap [] := va_S.rf
  have hl := lv_entry ([.ref q_this, .int a_0, .int a_1, .long a_2]) (n := 5) (Nat.le_of_ble_eq_true rfl)
  rw [lg_entry_eq]
  generalize (lg_sl ([.ref q_this, .int a_0, .int a_1, .long a_2]) ++ List.replicate (5 - (lg_sl ([.ref q_this, .int a_0, .int a_1, .long a_2])).length) Slot.unset).toArray = ls at hl ⊢
  replace hl : lv_has ls 5 [(0, .ref q_this), (1, .int a_0), (2, .int a_1), (3, .long a_2)] := hl
  unfold wp_RD_set at hw
  change W p l e rm_RD_set s m _ below meth c s.heap [] 0 0 _ _
  refine lv_aload_n hx hb d_RD_set_0 rfl (lv_at hl 0 rfl) ?_
  refine va_get (D := (dC, dI)) (ci := 2) (v := .ref q_cells) (C := "StructureRows$Reduction") (T := T_RD) (N := 5) hx hb hts in_RD hown hK hP 0 rfl rfl 0 (by decide) (hts _ tw_58) (fun _ h9 => h9) rfl d_RD_set_1 ?_
  refine lv_iload_n hx hb d_RD_set_4 rfl (lv_at hl 1 rfl) ?_
  refine lv_bipush (v := 8) hx hb d_RD_set_5 (by decide) ?_
  refine lv_imul hx hb d_RD_set_7 ?_
  refine lv_iload_n hx hb d_RD_set_8 rfl (lv_at hl 2 rfl) ?_
  refine lv_iadd hx hb d_RD_set_9 ?_
  refine lv_lload_n hx hb d_RD_set_10 rfl (lv_at hl 3 rfl) ?_
  obtain ⟨h_1, hw⟩ := hw
  obtain ⟨w_2, ew_2⟩ : ∃ y : Nat → Int64, y = vp_updL x_cells ((a_0 * 8) + a_1).toNatClampNeg a_2 := ⟨_, rfl⟩
  replace hw := hw w_2 ew_2
  refine va_last hx hb hK hP hD hS 1 0 rfl rfl h_1 d_RD_set_11 (fun H locs hP hD hS => ?_)
  rw [← ew_2] at hP hD
  replace hP : va_P (dC, dI) zz_cl [(q_this, .inr (2, [.ref q_cells, .ref q_beginnings, .int x_height, .int x_width, .int x_imageHeight])), (q_cells, .inl (k_cells, 32, .inr (.inl w_2)))] H := hP
  replace hD : va_D A [(q_this, .inr (2, [.ref q_cells, .ref q_beginnings, .int x_height, .int x_width, .int x_imageHeight])), (q_cells, .inl (k_cells, 32, .inr (.inl w_2)))] := hD
  exact W.vret hx hb hr (fun t ht hW => ⟨⟨w_2, rfl, hw, by rw [ht]; exact hP, va_K.moved hW.alike hK, hD⟩, hS.F ht⟩) hS.2.2 d_RD_set_12
set_option maxHeartbeats 4000000 in
set_option maxRecDepth 100000 in
theorem go_RD_set {p : Program} {l : Launch} {e : Env} {R : Room} {s : State} {m : MethodId} {args : Array Value} {below : List Frame} {meth : Method} {c : Code} {H : Heap} {locs : List Loc} {cells slots : Nat} {Q : State → Prop} {cc : ByteArray} {nL : Nat} {Ts : List Cond} {own : String} {index : Nat} {A0 : Nat → Prop} {H0 : Heap} {dC : Nat → ClassId} {dI : Nat → Nat → Nat} {ws wr : va_W} {tys : List (ClassId × FieldType)} {q_this q_cells q_beginnings : Nat} {k_cells : ClassId} {x_height : Int32} {x_width : Int32} {x_imageHeight : Int32} {x_cells : Nat → Int64} {a_0 : Int32} {a_1 : Int32} {a_2 : Int64} {post : (Nat → Int64) → Prop} (S : CallFix p m c cc nL s args Ts own) (cw : CallW R s args own "StructureRows$Reduction" index y_RD_set b_RD_set 5 none (zz_w y_RD_set b_RD_set 5 none) rm_RD_set 0 0 3) (hK : va_K (dC, dI) zz_cl tys s) (hP : va_P (dC, dI) zz_cl ws H) (hD : va_D A0 ws) (hS : va_S A0 H0 H locs) (hA : ∀ q, H0.size ≤ q → A0 q) (isC isR kt : List Nat) (h1 : isC.filterMap (fun i => ws[i]?) = [(q_this, .inr (2, [.ref q_cells, .ref q_beginnings, .int x_height, .int x_width, .int x_imageHeight])), (q_cells, .inl (k_cells, 32, .inr (.inl x_cells)))]) (h2 : isC.map (fun i => ws[i]?) = ([(q_this, .inr (2, [.ref q_cells, .ref q_beginnings, .int x_height, .int x_width, .int x_imageHeight])), (q_cells, .inl (k_cells, 32, .inr (.inl x_cells)))] : va_W).map some) (h3 : va_nd isC = true) (h4 : isR.map (fun i => ws[i]?) = wr.map some) (h5 : va_nd isR = true) (h6 : ∀ i ∈ isR, i ∉ isC) (h7 : kt.filterMap (fun i => tys[i]?) = [(k_cells, .long)]) (hw : wp_RD_set x_height x_width x_imageHeight x_cells a_0 a_1 a_2 post) {pc : Nat} {ls : Array Slot} {rest : List Value} (hsize : ls.size = nL) (hrest : (rest.map fun v => v.category).sum ≤ 8) (hdg : decode cc pc = .ok (.invokevirtual index, 3)) (hf : cells + 0 ≤ R.cells ∧ slots + 0 ≤ R.slots) (kk : ∀ (m0 : Nat → Int64) (H1 : Heap) (locs1 : List Loc), post m0 → va_P (dC, dI) zz_cl (wr ++ [(q_this, .inr (2, [.ref q_cells, .ref q_beginnings, .int x_height, .int x_width, .int x_imageHeight])), (q_cells, .inl (k_cells, 32, .inr (.inl m0)))]) H1 → va_D A0 (wr ++ [(q_this, .inr (2, [.ref q_cells, .ref q_beginnings, .int x_height, .int x_width, .int x_imageHeight])), (q_cells, .inl (k_cells, 32, .inr (.inl m0)))]) → va_S A0 H0 H1 locs1 → W p l e R s m args below meth c H1 locs1 (cells + 0) (slots + 0) Q (F0 m (pc + 3) ls rest)) : W p l e R s m args below meth c H locs cells slots Q (F0 m pc ls (.long a_2 :: .int a_1 :: .int a_0 :: .ref q_this :: rest)) := by
  have hPc := hP.sub (ws' := [(q_this, .inr (2, [.ref q_cells, .ref q_beginnings, .int x_height, .int x_width, .int x_imageHeight])), (q_cells, .inl (k_cells, 32, .inr (.inl x_cells)))]) isC h1
  have hDc := hD.sub (ws' := [(q_this, .inr (2, [.ref q_cells, .ref q_beginnings, .int x_height, .int x_width, .int x_imageHeight])), (q_cells, .inl (k_cells, 32, .inr (.inl x_cells)))]) isC h3 h2
  have hKc := hK.sub (tys' := [(k_cells, .long)]) kt h7
  have hFc := va_free (wc := [(q_this, .inr (2, [.ref q_cells, .ref q_beginnings, .int x_height, .int x_width, .int x_imageHeight])), (q_cells, .inl (k_cells, 32, .inr (.inl x_cells)))]) hD hS hA isC h2
  refine va_callv (va_runV (As := [.int a_0, .int a_1, .long a_2]) (rest := rest) S (c_RD_set l dC dI q_this q_cells q_beginnings k_cells H.size x_height x_width x_imageHeight x_cells a_0 a_1 a_2 post hw) cw ⟨zz_blind, va_recv hKc hPc (ci := 2) (q0 := 0) rfl rfl, fun U hU hW => ⟨rfl, by rw [hU], by rw [hU]; exact hPc, va_K.moved hW.alike hKc, hDc.weaken (fun _ _ _ _ => trivial)⟩⟩ rfl rfl hsize rfl (lv_room hrest) hdg hf) hS (fun q _ h => hFc q h) hFc (fun u t H1 locs ht hvm hw hB hz1 hk1 hS => ?_)
  obtain ⟨hP1, hK1, hD1⟩ := hB
  rw [ht] at hP1
  obtain ⟨hP2, hD2⟩ := va_join (wr := wr) (w1 := [(q_this, .inr (2, [.ref q_cells, .ref q_beginnings, .int x_height, .int x_width, .int x_imageHeight])), (q_cells, .inl (k_cells, 32, .inr (.inl u)))]) hP hD isC isR h2 h4 h5 h6 hk1 hFc hP1 hD1
  exact kk u H1 locs hw hP2 hD2 hS
abbrev rm_RD_takeAway : Room := { frames := 1, cells := 0, slots := 0, locals := 24 }
abbrev qz_RD_takeAway (dC : Nat → ClassId) (dI : Nat → Nat → Nat) (q_this q_cells q_beginnings : Nat) (k_cells : ClassId) (x_height : Int32) (x_width : Int32) (x_imageHeight : Int32) (post : (Nat → Int64) → Prop) (A : Nat → Prop) : Array Value → State → Outcome → State → Prop := va_Qv (fun (u : (Nat → Int64)) => post u) (fun (u : (Nat → Int64)) (t : State) => va_P (dC, dI) zz_cl [(q_this, .inr (2, [.ref q_cells, .ref q_beginnings, .int x_height, .int x_width, .int x_imageHeight])), (q_cells, .inl (k_cells, 32, .inr (.inl u)))] t.heap ∧ va_K (dC, dI) zz_cl [(k_cells, .long)] t ∧ va_D A [(q_this, .inr (2, [.ref q_cells, .ref q_beginnings, .int x_height, .int x_width, .int x_imageHeight])), (q_cells, .inl (k_cells, 32, .inr (.inl u)))]) A
def cx_RD_takeAway (p : Program) (s : State) (m : MethodId) (args : Array Value) (meth : Method) (c : Code) : Prop := p.tables.exec = Jvm.exec ∧ c.code = b_RD_takeAway ∧ meth.sig.returnType = none ∧ c.maxLocals = 6 ∧ s.vm.findClass "StructureRows$Reduction" = some m.cls ∧ (∀ w ∈ zz_GW, w.before args s = true) ∧ meth.locks = false
def wp_RD_takeAway_10b (x_height : Int32) (x_width : Int32) (x_imageHeight : Int32) (u_1 : Int32) (u_2 : Int32) (u_3 : Int64) (post : (Nat → Int64) → Prop)  (P : (Nat → Int64) → Int32 → Prop) (x_cells : Nat → Int64) (u_5 : Int32) : Prop := ((x_width + x_height) ≤ u_5 → (post x_cells)) ∧ (¬ (x_width + x_height) ≤ u_5 → (wp_RD_cell x_height x_width x_imageHeight x_cells u_1 u_5 (fun (r_3 : Int64) => (wp_RD_cell x_height x_width x_imageHeight x_cells u_2 u_5 (fun (r_4 : Int64) => (wp_RD_set x_height x_width x_imageHeight x_cells u_1 u_5 (r_3 - (u_3 * r_4)) (fun (m_5 : Nat → Int64) => (∀ v_6 : Int32, v_6 = u_5 + 1 → (P m_5 v_6)))))))))
def wp_RD_takeAway_10 (x_height : Int32) (x_width : Int32) (x_imageHeight : Int32) (u_1 : Int32) (u_2 : Int32) (u_3 : Int64) (post : (Nat → Int64) → Prop)  (x_cells : Nat → Int64) (u_5 : Int32) : Prop := ∀ P : (Nat → Int64) → Int32 → Prop, (∀ (x_cells : Nat → Int64) (u_5 : Int32), wp_RD_takeAway_10b x_height x_width x_imageHeight u_1 u_2 u_3 post P x_cells u_5 → P x_cells u_5) → P x_cells u_5
set_option maxHeartbeats 4000000 in
set_option maxRecDepth 100000 in
theorem k_RD_takeAway_10 {p : Program} {l : Launch} {e : Env} {s : State} {m : MethodId} {args : Array Value} {below : List Frame} {meth : Method} {c : Code} {dC : Nat → ClassId} {dI : Nat → Nat → Nat} {A : Nat → Prop} {q_this q_cells q_beginnings : Nat} {k_cells : ClassId} {x_height : Int32} {x_width : Int32} {x_imageHeight : Int32} {u_1 : Int32} {u_2 : Int32} {u_3 : Int64} {post : (Nat → Int64) → Prop}  (C0 : cx_RD_takeAway p s m args meth c) (hA : ∀ q : Nat, s.heap.size ≤ q → A q) (hK : va_K (dC, dI) zz_cl [(k_cells, .long)] s) {x_cells : Nat → Int64} {u_5 : Int32} (hw : wp_RD_takeAway_10 x_height x_width x_imageHeight u_1 u_2 u_3 post x_cells u_5) {H : Heap} {locs : List Loc} {ls : Array Slot} (hP : va_P (dC, dI) zz_cl [(q_this, .inr (2, [.ref q_cells, .ref q_beginnings, .int x_height, .int x_width, .int x_imageHeight])), (q_cells, .inl (k_cells, 32, .inr (.inl x_cells)))] H) (hD : va_D A [(q_this, .inr (2, [.ref q_cells, .ref q_beginnings, .int x_height, .int x_width, .int x_imageHeight])), (q_cells, .inl (k_cells, 32, .inr (.inl x_cells)))]) (hS : va_S A s.heap H locs) (hl : lv_has ls 6 [(0, .ref q_this), (1, .int u_1), (2, .int u_2), (3, .long u_3), (5, .int u_5)]) : W p l e rm_RD_takeAway s m args below meth c H locs 0 0 (MQ below (qz_RD_takeAway dC dI q_this q_cells q_beginnings k_cells x_height x_width x_imageHeight post A) args s 0 0 A) (F0 m 10 ls []) := by
  have C1 := C0
  obtain ⟨hx, hb, hr, hml, hown, hts, hlocks⟩ := C1
  refine hw (fun (x_cells : Nat → Int64) (u_5 : Int32) => ∀ (H : Heap) (locs : List Loc) (ls : Array Slot), va_P (dC, dI) zz_cl [(q_this, .inr (2, [.ref q_cells, .ref q_beginnings, .int x_height, .int x_width, .int x_imageHeight])), (q_cells, .inl (k_cells, 32, .inr (.inl x_cells)))] H → va_D A [(q_this, .inr (2, [.ref q_cells, .ref q_beginnings, .int x_height, .int x_width, .int x_imageHeight])), (q_cells, .inl (k_cells, 32, .inr (.inl x_cells)))] → va_S A s.heap H locs → lv_has ls 6 [(0, .ref q_this), (1, .int u_1), (2, .int u_2), (3, .long u_3), (5, .int u_5)] → W p l e rm_RD_takeAway s m args below meth c H locs 0 0 (MQ below (qz_RD_takeAway dC dI q_this q_cells q_beginnings k_cells x_height x_width x_imageHeight post A) args s 0 0 A) (F0 m 10 ls [])) ?_ H locs ls hP hD hS hl
  clear hw hP hD hS hl H locs ls
  intro x_cells u_5 hw H locs ls hP hD hS hl
  unfold wp_RD_takeAway_10b at hw
  refine lv_iload hx hb d_RD_takeAway_10 (lv_at hl 4 rfl) ?_
  refine lv_aload_n hx hb d_RD_takeAway_12 rfl (lv_at hl 0 rfl) ?_
  refine va_get (D := (dC, dI)) (ci := 2) (v := .int x_width) (C := "StructureRows$Reduction") (T := T_RD) (N := 5) hx hb hts in_RD hown hK hP 0 rfl rfl 3 (by decide) (hts _ tw_61) (fun _ h9 => h9) rfl d_RD_takeAway_13 ?_
  refine lv_aload_n hx hb d_RD_takeAway_16 rfl (lv_at hl 0 rfl) ?_
  refine va_get (D := (dC, dI)) (ci := 2) (v := .int x_height) (C := "StructureRows$Reduction") (T := T_RD) (N := 5) hx hb hts in_RD hown hK hP 0 rfl rfl 2 (by decide) (hts _ tw_60) (fun _ h9 => h9) rfl d_RD_takeAway_17 ?_
  refine lv_iadd hx hb d_RD_takeAway_20 ?_
  refine lv_icmp_ge (tgt := 54) hx hb d_RD_takeAway_21 (by decide) (fun h_2 => ?_) (fun h_2 => ?_)
  · replace hw := hw.1 h_2
    exact W.vret hx hb hr (fun t ht hW => ⟨⟨x_cells, rfl, hw, by rw [ht]; exact hP, va_K.moved hW.alike hK, hD⟩, hS.F ht⟩) hS.2.2 d_RD_takeAway_54
  · replace hw := hw.2 h_2
    refine lv_aload_n hx hb d_RD_takeAway_24 rfl (lv_at hl 0 rfl) ?_
    refine lv_iload_n hx hb d_RD_takeAway_25 rfl (lv_at hl 1 rfl) ?_
    refine lv_iload hx hb d_RD_takeAway_26 (lv_at hl 4 rfl) ?_
    refine lv_aload_n hx hb d_RD_takeAway_28 rfl (lv_at hl 0 rfl) ?_
    refine lv_iload_n hx hb d_RD_takeAway_29 rfl (lv_at hl 1 rfl) ?_
    refine lv_iload hx hb d_RD_takeAway_30 (lv_at hl 4 rfl) ?_
    refine go_RD_cell (wr := []) ⟨hx, hb, hml, hown, hts⟩ (zz_cwV 2 hts tw_164 tw_161 tw_163 tw_2 tw_32 ⟨by decide, by decide, by decide +kernel⟩ ⟨Nat.le_of_ble_eq_true rfl, Nat.le_of_ble_eq_true rfl⟩) hK hP hD hS hA [0, 1] [] [0] rfl rfl (by decide) rfl (by decide) (by decide) rfl hw hl.1 (Nat.le_of_ble_eq_true rfl) d_RD_takeAway_32 ⟨Nat.le_of_ble_eq_true rfl, Nat.le_of_ble_eq_true rfl⟩ (fun r_3 H locs hw hP hD hS => ?_)
    replace hP : va_P (dC, dI) zz_cl [(q_this, .inr (2, [.ref q_cells, .ref q_beginnings, .int x_height, .int x_width, .int x_imageHeight])), (q_cells, .inl (k_cells, 32, .inr (.inl x_cells)))] H := hP
    replace hD : va_D A [(q_this, .inr (2, [.ref q_cells, .ref q_beginnings, .int x_height, .int x_width, .int x_imageHeight])), (q_cells, .inl (k_cells, 32, .inr (.inl x_cells)))] := hD
    refine lv_lload_n hx hb d_RD_takeAway_35 rfl (lv_at hl 3 rfl) ?_
    refine lv_aload_n hx hb d_RD_takeAway_36 rfl (lv_at hl 0 rfl) ?_
    refine lv_iload_n hx hb d_RD_takeAway_37 rfl (lv_at hl 2 rfl) ?_
    refine lv_iload hx hb d_RD_takeAway_38 (lv_at hl 4 rfl) ?_
    refine go_RD_cell (wr := []) ⟨hx, hb, hml, hown, hts⟩ (zz_cwV 2 hts tw_164 tw_161 tw_163 tw_2 tw_32 ⟨by decide, by decide, by decide +kernel⟩ ⟨Nat.le_of_ble_eq_true rfl, Nat.le_of_ble_eq_true rfl⟩) hK hP hD hS hA [0, 1] [] [0] rfl rfl (by decide) rfl (by decide) (by decide) rfl hw hl.1 (Nat.le_of_ble_eq_true rfl) d_RD_takeAway_40 ⟨Nat.le_of_ble_eq_true rfl, Nat.le_of_ble_eq_true rfl⟩ (fun r_4 H locs hw hP hD hS => ?_)
    replace hP : va_P (dC, dI) zz_cl [(q_this, .inr (2, [.ref q_cells, .ref q_beginnings, .int x_height, .int x_width, .int x_imageHeight])), (q_cells, .inl (k_cells, 32, .inr (.inl x_cells)))] H := hP
    replace hD : va_D A [(q_this, .inr (2, [.ref q_cells, .ref q_beginnings, .int x_height, .int x_width, .int x_imageHeight])), (q_cells, .inl (k_cells, 32, .inr (.inl x_cells)))] := hD
    refine lv_lmul hx hb d_RD_takeAway_43 ?_
    refine lv_lsub hx hb d_RD_takeAway_44 ?_
    refine go_RD_set (wr := []) ⟨hx, hb, hml, hown, hts⟩ (zz_cwV 3 hts tw_151 tw_148 tw_149 tw_150 tw_32 ⟨by decide, by decide, by decide +kernel⟩ ⟨Nat.le_of_ble_eq_true rfl, Nat.le_of_ble_eq_true rfl⟩) hK hP hD hS hA [0, 1] [] [0] rfl rfl (by decide) rfl (by decide) (by decide) rfl hw hl.1 (Nat.le_of_ble_eq_true rfl) d_RD_takeAway_45 ⟨Nat.le_of_ble_eq_true rfl, Nat.le_of_ble_eq_true rfl⟩ (fun m_5 H locs hw hP hD hS => ?_)
    replace hP : va_P (dC, dI) zz_cl [(q_this, .inr (2, [.ref q_cells, .ref q_beginnings, .int x_height, .int x_width, .int x_imageHeight])), (q_cells, .inl (k_cells, 32, .inr (.inl m_5)))] H := hP
    replace hD : va_D A [(q_this, .inr (2, [.ref q_cells, .ref q_beginnings, .int x_height, .int x_width, .int x_imageHeight])), (q_cells, .inl (k_cells, 32, .inr (.inl m_5)))] := hD
    obtain ⟨v_6, ev_6⟩ : ∃ y : Int32, y = u_5 + 1 := ⟨_, rfl⟩
    replace hw := hw v_6 ev_6
    refine lv_iinc (v := v_6) (lv' := [(5, .int v_6), (0, .ref q_this), (1, .int u_1), (2, .int u_2), (3, .long u_3)]) hx hb d_RD_takeAway_48 hl (k := 4) rfl (by rw [ev_6]; rfl) (by decide) rfl (fun ls hl => ?_)
    refine lv_goto (tgt := 10) hx hb d_RD_takeAway_51 (by decide) ?_
    exact hw H locs ls hP hD hS (lv_sub hl [1, 2, 3, 4, 0] rfl)
def wp_RD_takeAway (x_height : Int32) (x_width : Int32) (x_imageHeight : Int32) (x_cells : Nat → Int64) (a_0 : Int32) (a_1 : Int32) (a_2 : Int64) (post : (Nat → Int64) → Prop) : Prop := (¬ (lg_cmp a_2 0) = 0 → (wp_RD_takeAway_10 x_height x_width x_imageHeight a_0 a_1 a_2 post x_cells 0)) ∧ ((lg_cmp a_2 0) = 0 → (post x_cells))
set_option maxHeartbeats 4000000 in
set_option maxRecDepth 100000 in
theorem c_RD_takeAway (l : Launch) (dC : Nat → ClassId) (dI : Nat → Nat → Nat) (q_this q_cells q_beginnings : Nat) (k_cells : ClassId) (sz : Nat) (x_height : Int32) (x_width : Int32) (x_imageHeight : Int32) (x_cells : Nat → Int64) (a_0 : Int32) (a_1 : Int32) (a_2 : Int64) (post : (Nat → Int64) → Prop) (hw : wp_RD_takeAway x_height x_width x_imageHeight x_cells a_0 a_1 a_2 post) : Met l y_RD_takeAway (zz_w y_RD_takeAway b_RD_takeAway 6 none) rm_RD_takeAway (va_Pc [.ref q_this, .int a_0, .int a_1, .long a_2] (fun U => U.heap.size = sz ∧ va_P (dC, dI) zz_cl [(q_this, .inr (2, [.ref q_cells, .ref q_beginnings, .int x_height, .int x_width, .int x_imageHeight])), (q_cells, .inl (k_cells, 32, .inr (.inl x_cells)))] U.heap ∧ va_K (dC, dI) zz_cl [(k_cells, .long)] U ∧ va_D (fun _ => True) [(q_this, .inr (2, [.ref q_cells, .ref q_beginnings, .int x_height, .int x_width, .int x_imageHeight])), (q_cells, .inl (k_cells, 32, .inr (.inl x_cells)))])) (qz_RD_takeAway dC dI q_this q_cells q_beginnings k_cells x_height x_width x_imageHeight post (va_A [(q_this, .inr (2, [.ref q_cells, .ref q_beginnings, .int x_height, .int x_width, .int x_imageHeight])), (q_cells, .inl (k_cells, 32, .inr (.inl x_cells)))] sz)) 0 0 (va_A [(q_this, .inr (2, [.ref q_cells, .ref q_beginnings, .int x_height, .int x_width, .int x_imageHeight])), (q_cells, .inl (k_cells, 32, .inr (.inl x_cells)))] sz) := by
  refine Met.ofW (cc := b_RD_takeAway) (maxL := 6) (ret := none) (by decide) rfl ?_
  intro p e s m args below meth c s₁ B hml hv
  obtain ⟨rfl, hsz, hP, hK, hD0⟩ := hv
  have hx := B.exec
  have hb := B.bytes
  have hr := B.returns
  have hts0 := atoms_spec (ws := (zz_w y_RD_takeAway b_RD_takeAway 6 none)) B.pre
  have hts : ∀ w ∈ zz_GW, w.before _ s = true := fun w h => hts0 w (List.mem_cons_of_mem _ h)
  clear hts0
  have hown : s.vm.findClass "StructureRows$Reduction" = some m.cls := findClass_of_methodNamed B.named
  have hlocks := B.notSynchronized
  have C0 : cx_RD_takeAway p s m _ meth c := ⟨hx, hb, hr, hml, hown, hts, hlocks⟩
  subst hsz
  have hD := hD0.self (sz := s.heap.size)
  generalize hAe : va_A [(q_this, .inr (2, [.ref q_cells, .ref q_beginnings, .int x_height, .int x_width, .int x_imageHeight])), (q_cells, .inl (k_cells, 32, .inr (.inl x_cells)))] s.heap.size = A at hD ⊢
  have hA : ∀ q : Nat, s.heap.size ≤ q → A q := fun q h => by rw [← hAe]; exact Or.inr h
  clear hAe hD0
  have hS : va_S A s.heap s.heap [] := va_S.rf
  have hl := lv_entry ([.ref q_this, .int a_0, .int a_1, .long a_2]) (n := 6) (Nat.le_of_ble_eq_true rfl)
  rw [lg_entry_eq]
  generalize (lg_sl ([.ref q_this, .int a_0, .int a_1, .long a_2]) ++ List.replicate (6 - (lg_sl ([.ref q_this, .int a_0, .int a_1, .long a_2])).length) Slot.unset).toArray = ls at hl ⊢
  replace hl : lv_has ls 6 [(0, .ref q_this), (1, .int a_0), (2, .int a_1), (3, .long a_2)] := hl
  unfold wp_RD_takeAway at hw
  change W p l e rm_RD_takeAway s m _ below meth c s.heap [] 0 0 _ _
  refine lv_lload_n hx hb d_RD_takeAway_0 rfl (lv_at hl 3 rfl) ?_
  refine lv_lconst (v := 0) hx hb d_RD_takeAway_1 (by decide) ?_
  refine W.lcmp hx hb d_RD_takeAway_2 ?_
  refine lv_if_ne (tgt := 7) hx hb d_RD_takeAway_3 (by decide) (fun h_1 => ?_) (fun h_1 => ?_)
  · replace hw := hw.1 h_1
    refine lv_iconst (v := 0) hx hb d_RD_takeAway_7 (by decide) ?_
    refine lv_istore (lv' := [(5, .int 0), (0, .ref q_this), (1, .int a_0), (2, .int a_1), (3, .long a_2)]) hx hb d_RD_takeAway_8 hl (by decide) rfl (fun ls hl => ?_)
    exact k_RD_takeAway_10 C0 hA hK hw hP hD hS (lv_sub hl [1, 2, 3, 4, 0] rfl)
  · replace hw := hw.2 h_1
    exact W.vret hx hb hr (fun t ht hW => ⟨⟨x_cells, rfl, hw, by rw [ht]; exact hP, va_K.moved hW.alike hK, hD⟩, hS.F ht⟩) hS.2.2 d_RD_takeAway_6
set_option maxHeartbeats 4000000 in
set_option maxRecDepth 100000 in
theorem go_RD_takeAway {p : Program} {l : Launch} {e : Env} {R : Room} {s : State} {m : MethodId} {args : Array Value} {below : List Frame} {meth : Method} {c : Code} {H : Heap} {locs : List Loc} {cells slots : Nat} {Q : State → Prop} {cc : ByteArray} {nL : Nat} {Ts : List Cond} {own : String} {index : Nat} {A0 : Nat → Prop} {H0 : Heap} {dC : Nat → ClassId} {dI : Nat → Nat → Nat} {ws wr : va_W} {tys : List (ClassId × FieldType)} {q_this q_cells q_beginnings : Nat} {k_cells : ClassId} {x_height : Int32} {x_width : Int32} {x_imageHeight : Int32} {x_cells : Nat → Int64} {a_0 : Int32} {a_1 : Int32} {a_2 : Int64} {post : (Nat → Int64) → Prop} (S : CallFix p m c cc nL s args Ts own) (cw : CallW R s args own "StructureRows$Reduction" index y_RD_takeAway b_RD_takeAway 6 none (zz_w y_RD_takeAway b_RD_takeAway 6 none) rm_RD_takeAway 0 0 3) (hK : va_K (dC, dI) zz_cl tys s) (hP : va_P (dC, dI) zz_cl ws H) (hD : va_D A0 ws) (hS : va_S A0 H0 H locs) (hA : ∀ q, H0.size ≤ q → A0 q) (isC isR kt : List Nat) (h1 : isC.filterMap (fun i => ws[i]?) = [(q_this, .inr (2, [.ref q_cells, .ref q_beginnings, .int x_height, .int x_width, .int x_imageHeight])), (q_cells, .inl (k_cells, 32, .inr (.inl x_cells)))]) (h2 : isC.map (fun i => ws[i]?) = ([(q_this, .inr (2, [.ref q_cells, .ref q_beginnings, .int x_height, .int x_width, .int x_imageHeight])), (q_cells, .inl (k_cells, 32, .inr (.inl x_cells)))] : va_W).map some) (h3 : va_nd isC = true) (h4 : isR.map (fun i => ws[i]?) = wr.map some) (h5 : va_nd isR = true) (h6 : ∀ i ∈ isR, i ∉ isC) (h7 : kt.filterMap (fun i => tys[i]?) = [(k_cells, .long)]) (hw : wp_RD_takeAway x_height x_width x_imageHeight x_cells a_0 a_1 a_2 post) {pc : Nat} {ls : Array Slot} {rest : List Value} (hsize : ls.size = nL) (hrest : (rest.map fun v => v.category).sum ≤ 8) (hdg : decode cc pc = .ok (.invokevirtual index, 3)) (hf : cells + 0 ≤ R.cells ∧ slots + 0 ≤ R.slots) (kk : ∀ (m0 : Nat → Int64) (H1 : Heap) (locs1 : List Loc), post m0 → va_P (dC, dI) zz_cl (wr ++ [(q_this, .inr (2, [.ref q_cells, .ref q_beginnings, .int x_height, .int x_width, .int x_imageHeight])), (q_cells, .inl (k_cells, 32, .inr (.inl m0)))]) H1 → va_D A0 (wr ++ [(q_this, .inr (2, [.ref q_cells, .ref q_beginnings, .int x_height, .int x_width, .int x_imageHeight])), (q_cells, .inl (k_cells, 32, .inr (.inl m0)))]) → va_S A0 H0 H1 locs1 → W p l e R s m args below meth c H1 locs1 (cells + 0) (slots + 0) Q (F0 m (pc + 3) ls rest)) : W p l e R s m args below meth c H locs cells slots Q (F0 m pc ls (.long a_2 :: .int a_1 :: .int a_0 :: .ref q_this :: rest)) := by
  have hPc := hP.sub (ws' := [(q_this, .inr (2, [.ref q_cells, .ref q_beginnings, .int x_height, .int x_width, .int x_imageHeight])), (q_cells, .inl (k_cells, 32, .inr (.inl x_cells)))]) isC h1
  have hDc := hD.sub (ws' := [(q_this, .inr (2, [.ref q_cells, .ref q_beginnings, .int x_height, .int x_width, .int x_imageHeight])), (q_cells, .inl (k_cells, 32, .inr (.inl x_cells)))]) isC h3 h2
  have hKc := hK.sub (tys' := [(k_cells, .long)]) kt h7
  have hFc := va_free (wc := [(q_this, .inr (2, [.ref q_cells, .ref q_beginnings, .int x_height, .int x_width, .int x_imageHeight])), (q_cells, .inl (k_cells, 32, .inr (.inl x_cells)))]) hD hS hA isC h2
  refine va_callv (va_runV (As := [.int a_0, .int a_1, .long a_2]) (rest := rest) S (c_RD_takeAway l dC dI q_this q_cells q_beginnings k_cells H.size x_height x_width x_imageHeight x_cells a_0 a_1 a_2 post hw) cw ⟨zz_blind, va_recv hKc hPc (ci := 2) (q0 := 0) rfl rfl, fun U hU hW => ⟨rfl, by rw [hU], by rw [hU]; exact hPc, va_K.moved hW.alike hKc, hDc.weaken (fun _ _ _ _ => trivial)⟩⟩ rfl rfl hsize rfl (lv_room hrest) hdg hf) hS (fun q _ h => hFc q h) hFc (fun u t H1 locs ht hvm hw hB hz1 hk1 hS => ?_)
  obtain ⟨hP1, hK1, hD1⟩ := hB
  rw [ht] at hP1
  obtain ⟨hP2, hD2⟩ := va_join (wr := wr) (w1 := [(q_this, .inr (2, [.ref q_cells, .ref q_beginnings, .int x_height, .int x_width, .int x_imageHeight])), (q_cells, .inl (k_cells, 32, .inr (.inl u)))]) hP hD isC isR h2 h4 h5 h6 hk1 hFc hP1 hD1
  exact kk u H1 locs hw hP2 hD2 hS
abbrev rm_RD_swap : Room := { frames := 1, cells := 0, slots := 0, locals := 24 }
abbrev qz_RD_swap (dC : Nat → ClassId) (dI : Nat → Nat → Nat) (q_this q_cells q_beginnings : Nat) (k_cells : ClassId) (x_height : Int32) (x_width : Int32) (x_imageHeight : Int32) (post : (Nat → Int64) → Prop) (A : Nat → Prop) : Array Value → State → Outcome → State → Prop := va_Qv (fun (u : (Nat → Int64)) => post u) (fun (u : (Nat → Int64)) (t : State) => va_P (dC, dI) zz_cl [(q_this, .inr (2, [.ref q_cells, .ref q_beginnings, .int x_height, .int x_width, .int x_imageHeight])), (q_cells, .inl (k_cells, 32, .inr (.inl u)))] t.heap ∧ va_K (dC, dI) zz_cl [(k_cells, .long)] t ∧ va_D A [(q_this, .inr (2, [.ref q_cells, .ref q_beginnings, .int x_height, .int x_width, .int x_imageHeight])), (q_cells, .inl (k_cells, 32, .inr (.inl u)))]) A
def cx_RD_swap (p : Program) (s : State) (m : MethodId) (args : Array Value) (meth : Method) (c : Code) : Prop := p.tables.exec = Jvm.exec ∧ c.code = b_RD_swap ∧ meth.sig.returnType = none ∧ c.maxLocals = 6 ∧ s.vm.findClass "StructureRows$Reduction" = some m.cls ∧ (∀ w ∈ zz_GW, w.before args s = true) ∧ meth.locks = false
def wp_RD_swap_2b (x_height : Int32) (x_width : Int32) (x_imageHeight : Int32) (u_1 : Int32) (u_2 : Int32) (post : (Nat → Int64) → Prop)  (P : (Nat → Int64) → Int32 → Prop) (x_cells : Nat → Int64) (u_3 : Int32) : Prop := ((x_width + x_height) ≤ u_3 → (post x_cells)) ∧ (¬ (x_width + x_height) ≤ u_3 → (wp_RD_cell x_height x_width x_imageHeight x_cells u_1 u_3 (fun (r_2 : Int64) => (wp_RD_cell x_height x_width x_imageHeight x_cells u_2 u_3 (fun (r_3 : Int64) => (wp_RD_set x_height x_width x_imageHeight x_cells u_1 u_3 r_3 (fun (m_4 : Nat → Int64) => (wp_RD_set x_height x_width x_imageHeight m_4 u_2 u_3 r_2 (fun (m_5 : Nat → Int64) => (∀ v_6 : Int32, v_6 = u_3 + 1 → (P m_5 v_6)))))))))))
def wp_RD_swap_2 (x_height : Int32) (x_width : Int32) (x_imageHeight : Int32) (u_1 : Int32) (u_2 : Int32) (post : (Nat → Int64) → Prop)  (x_cells : Nat → Int64) (u_3 : Int32) : Prop := ∀ P : (Nat → Int64) → Int32 → Prop, (∀ (x_cells : Nat → Int64) (u_3 : Int32), wp_RD_swap_2b x_height x_width x_imageHeight u_1 u_2 post P x_cells u_3 → P x_cells u_3) → P x_cells u_3
set_option maxHeartbeats 4000000 in
set_option maxRecDepth 100000 in
theorem k_RD_swap_2 {p : Program} {l : Launch} {e : Env} {s : State} {m : MethodId} {args : Array Value} {below : List Frame} {meth : Method} {c : Code} {dC : Nat → ClassId} {dI : Nat → Nat → Nat} {A : Nat → Prop} {q_this q_cells q_beginnings : Nat} {k_cells : ClassId} {x_height : Int32} {x_width : Int32} {x_imageHeight : Int32} {u_1 : Int32} {u_2 : Int32} {post : (Nat → Int64) → Prop}  (C0 : cx_RD_swap p s m args meth c) (hA : ∀ q : Nat, s.heap.size ≤ q → A q) (hK : va_K (dC, dI) zz_cl [(k_cells, .long)] s) {x_cells : Nat → Int64} {u_3 : Int32} (hw : wp_RD_swap_2 x_height x_width x_imageHeight u_1 u_2 post x_cells u_3) {H : Heap} {locs : List Loc} {ls : Array Slot} (hP : va_P (dC, dI) zz_cl [(q_this, .inr (2, [.ref q_cells, .ref q_beginnings, .int x_height, .int x_width, .int x_imageHeight])), (q_cells, .inl (k_cells, 32, .inr (.inl x_cells)))] H) (hD : va_D A [(q_this, .inr (2, [.ref q_cells, .ref q_beginnings, .int x_height, .int x_width, .int x_imageHeight])), (q_cells, .inl (k_cells, 32, .inr (.inl x_cells)))]) (hS : va_S A s.heap H locs) (hl : lv_has ls 6 [(0, .ref q_this), (1, .int u_1), (2, .int u_2), (3, .int u_3)]) : W p l e rm_RD_swap s m args below meth c H locs 0 0 (MQ below (qz_RD_swap dC dI q_this q_cells q_beginnings k_cells x_height x_width x_imageHeight post A) args s 0 0 A) (F0 m 2 ls []) := by
  have C1 := C0
  obtain ⟨hx, hb, hr, hml, hown, hts, hlocks⟩ := C1
  refine hw (fun (x_cells : Nat → Int64) (u_3 : Int32) => ∀ (H : Heap) (locs : List Loc) (ls : Array Slot), va_P (dC, dI) zz_cl [(q_this, .inr (2, [.ref q_cells, .ref q_beginnings, .int x_height, .int x_width, .int x_imageHeight])), (q_cells, .inl (k_cells, 32, .inr (.inl x_cells)))] H → va_D A [(q_this, .inr (2, [.ref q_cells, .ref q_beginnings, .int x_height, .int x_width, .int x_imageHeight])), (q_cells, .inl (k_cells, 32, .inr (.inl x_cells)))] → va_S A s.heap H locs → lv_has ls 6 [(0, .ref q_this), (1, .int u_1), (2, .int u_2), (3, .int u_3)] → W p l e rm_RD_swap s m args below meth c H locs 0 0 (MQ below (qz_RD_swap dC dI q_this q_cells q_beginnings k_cells x_height x_width x_imageHeight post A) args s 0 0 A) (F0 m 2 ls [])) ?_ H locs ls hP hD hS hl
  clear hw hP hD hS hl H locs ls
  intro x_cells u_3 hw H locs ls hP hD hS hl
  unfold wp_RD_swap_2b at hw
  refine lv_iload_n hx hb d_RD_swap_2 rfl (lv_at hl 3 rfl) ?_
  refine lv_aload_n hx hb d_RD_swap_3 rfl (lv_at hl 0 rfl) ?_
  refine va_get (D := (dC, dI)) (ci := 2) (v := .int x_width) (C := "StructureRows$Reduction") (T := T_RD) (N := 5) hx hb hts in_RD hown hK hP 0 rfl rfl 3 (by decide) (hts _ tw_61) (fun _ h9 => h9) rfl d_RD_swap_4 ?_
  refine lv_aload_n hx hb d_RD_swap_7 rfl (lv_at hl 0 rfl) ?_
  refine va_get (D := (dC, dI)) (ci := 2) (v := .int x_height) (C := "StructureRows$Reduction") (T := T_RD) (N := 5) hx hb hts in_RD hown hK hP 0 rfl rfl 2 (by decide) (hts _ tw_60) (fun _ h9 => h9) rfl d_RD_swap_8 ?_
  refine lv_iadd hx hb d_RD_swap_11 ?_
  refine lv_icmp_ge (tgt := 49) hx hb d_RD_swap_12 (by decide) (fun h_1 => ?_) (fun h_1 => ?_)
  · replace hw := hw.1 h_1
    exact W.vret hx hb hr (fun t ht hW => ⟨⟨x_cells, rfl, hw, by rw [ht]; exact hP, va_K.moved hW.alike hK, hD⟩, hS.F ht⟩) hS.2.2 d_RD_swap_49
  · replace hw := hw.2 h_1
    refine lv_aload_n hx hb d_RD_swap_15 rfl (lv_at hl 0 rfl) ?_
    refine lv_iload_n hx hb d_RD_swap_16 rfl (lv_at hl 1 rfl) ?_
    refine lv_iload_n hx hb d_RD_swap_17 rfl (lv_at hl 3 rfl) ?_
    refine go_RD_cell (wr := []) ⟨hx, hb, hml, hown, hts⟩ (zz_cwV 2 hts tw_164 tw_161 tw_163 tw_2 tw_32 ⟨by decide, by decide, by decide +kernel⟩ ⟨Nat.le_of_ble_eq_true rfl, Nat.le_of_ble_eq_true rfl⟩) hK hP hD hS hA [0, 1] [] [0] rfl rfl (by decide) rfl (by decide) (by decide) rfl hw hl.1 (Nat.le_of_ble_eq_true rfl) d_RD_swap_18 ⟨Nat.le_of_ble_eq_true rfl, Nat.le_of_ble_eq_true rfl⟩ (fun r_2 H locs hw hP hD hS => ?_)
    replace hP : va_P (dC, dI) zz_cl [(q_this, .inr (2, [.ref q_cells, .ref q_beginnings, .int x_height, .int x_width, .int x_imageHeight])), (q_cells, .inl (k_cells, 32, .inr (.inl x_cells)))] H := hP
    replace hD : va_D A [(q_this, .inr (2, [.ref q_cells, .ref q_beginnings, .int x_height, .int x_width, .int x_imageHeight])), (q_cells, .inl (k_cells, 32, .inr (.inl x_cells)))] := hD
    refine lv_lstore (lv' := [(4, .long r_2), (0, .ref q_this), (1, .int u_1), (2, .int u_2), (3, .int u_3)]) hx hb d_RD_swap_21 hl (by decide) rfl (fun ls hl => ?_)
    refine lv_aload_n hx hb d_RD_swap_23 rfl (lv_at hl 1 rfl) ?_
    refine lv_iload_n hx hb d_RD_swap_24 rfl (lv_at hl 2 rfl) ?_
    refine lv_iload_n hx hb d_RD_swap_25 rfl (lv_at hl 4 rfl) ?_
    refine lv_aload_n hx hb d_RD_swap_26 rfl (lv_at hl 1 rfl) ?_
    refine lv_iload_n hx hb d_RD_swap_27 rfl (lv_at hl 3 rfl) ?_
    refine lv_iload_n hx hb d_RD_swap_28 rfl (lv_at hl 4 rfl) ?_
    refine go_RD_cell (wr := []) ⟨hx, hb, hml, hown, hts⟩ (zz_cwV 2 hts tw_164 tw_161 tw_163 tw_2 tw_32 ⟨by decide, by decide, by decide +kernel⟩ ⟨Nat.le_of_ble_eq_true rfl, Nat.le_of_ble_eq_true rfl⟩) hK hP hD hS hA [0, 1] [] [0] rfl rfl (by decide) rfl (by decide) (by decide) rfl hw hl.1 (Nat.le_of_ble_eq_true rfl) d_RD_swap_29 ⟨Nat.le_of_ble_eq_true rfl, Nat.le_of_ble_eq_true rfl⟩ (fun r_3 H locs hw hP hD hS => ?_)
    replace hP : va_P (dC, dI) zz_cl [(q_this, .inr (2, [.ref q_cells, .ref q_beginnings, .int x_height, .int x_width, .int x_imageHeight])), (q_cells, .inl (k_cells, 32, .inr (.inl x_cells)))] H := hP
    replace hD : va_D A [(q_this, .inr (2, [.ref q_cells, .ref q_beginnings, .int x_height, .int x_width, .int x_imageHeight])), (q_cells, .inl (k_cells, 32, .inr (.inl x_cells)))] := hD
    refine go_RD_set (wr := []) ⟨hx, hb, hml, hown, hts⟩ (zz_cwV 3 hts tw_151 tw_148 tw_149 tw_150 tw_32 ⟨by decide, by decide, by decide +kernel⟩ ⟨Nat.le_of_ble_eq_true rfl, Nat.le_of_ble_eq_true rfl⟩) hK hP hD hS hA [0, 1] [] [0] rfl rfl (by decide) rfl (by decide) (by decide) rfl hw hl.1 (Nat.le_of_ble_eq_true rfl) d_RD_swap_32 ⟨Nat.le_of_ble_eq_true rfl, Nat.le_of_ble_eq_true rfl⟩ (fun m_4 H locs hw hP hD hS => ?_)
    replace hP : va_P (dC, dI) zz_cl [(q_this, .inr (2, [.ref q_cells, .ref q_beginnings, .int x_height, .int x_width, .int x_imageHeight])), (q_cells, .inl (k_cells, 32, .inr (.inl m_4)))] H := hP
    replace hD : va_D A [(q_this, .inr (2, [.ref q_cells, .ref q_beginnings, .int x_height, .int x_width, .int x_imageHeight])), (q_cells, .inl (k_cells, 32, .inr (.inl m_4)))] := hD
    refine lv_aload_n hx hb d_RD_swap_35 rfl (lv_at hl 1 rfl) ?_
    refine lv_iload_n hx hb d_RD_swap_36 rfl (lv_at hl 3 rfl) ?_
    refine lv_iload_n hx hb d_RD_swap_37 rfl (lv_at hl 4 rfl) ?_
    refine lv_lload hx hb d_RD_swap_38 (lv_at hl 0 rfl) ?_
    refine go_RD_set (wr := []) ⟨hx, hb, hml, hown, hts⟩ (zz_cwV 3 hts tw_151 tw_148 tw_149 tw_150 tw_32 ⟨by decide, by decide, by decide +kernel⟩ ⟨Nat.le_of_ble_eq_true rfl, Nat.le_of_ble_eq_true rfl⟩) hK hP hD hS hA [0, 1] [] [0] rfl rfl (by decide) rfl (by decide) (by decide) rfl hw hl.1 (Nat.le_of_ble_eq_true rfl) d_RD_swap_40 ⟨Nat.le_of_ble_eq_true rfl, Nat.le_of_ble_eq_true rfl⟩ (fun m_5 H locs hw hP hD hS => ?_)
    replace hP : va_P (dC, dI) zz_cl [(q_this, .inr (2, [.ref q_cells, .ref q_beginnings, .int x_height, .int x_width, .int x_imageHeight])), (q_cells, .inl (k_cells, 32, .inr (.inl m_5)))] H := hP
    replace hD : va_D A [(q_this, .inr (2, [.ref q_cells, .ref q_beginnings, .int x_height, .int x_width, .int x_imageHeight])), (q_cells, .inl (k_cells, 32, .inr (.inl m_5)))] := hD
    obtain ⟨v_6, ev_6⟩ : ∃ y : Int32, y = u_3 + 1 := ⟨_, rfl⟩
    replace hw := hw v_6 ev_6
    refine lv_iinc (v := v_6) (lv' := [(3, .int v_6), (4, .long r_2), (0, .ref q_this), (1, .int u_1), (2, .int u_2)]) hx hb d_RD_swap_43 hl (k := 4) rfl (by rw [ev_6]; rfl) (by decide) rfl (fun ls hl => ?_)
    refine lv_goto (tgt := 2) hx hb d_RD_swap_46 (by decide) ?_
    exact hw H locs ls hP hD hS (lv_sub hl [2, 3, 4, 0] rfl)
def wp_RD_swap (x_height : Int32) (x_width : Int32) (x_imageHeight : Int32) (x_cells : Nat → Int64) (a_0 : Int32) (a_1 : Int32) (post : (Nat → Int64) → Prop) : Prop := wp_RD_swap_2 x_height x_width x_imageHeight a_0 a_1 post x_cells 0
set_option maxHeartbeats 4000000 in
set_option maxRecDepth 100000 in
theorem c_RD_swap (l : Launch) (dC : Nat → ClassId) (dI : Nat → Nat → Nat) (q_this q_cells q_beginnings : Nat) (k_cells : ClassId) (sz : Nat) (x_height : Int32) (x_width : Int32) (x_imageHeight : Int32) (x_cells : Nat → Int64) (a_0 : Int32) (a_1 : Int32) (post : (Nat → Int64) → Prop) (hw : wp_RD_swap x_height x_width x_imageHeight x_cells a_0 a_1 post) : Met l y_RD_swap (zz_w y_RD_swap b_RD_swap 6 none) rm_RD_swap (va_Pc [.ref q_this, .int a_0, .int a_1] (fun U => U.heap.size = sz ∧ va_P (dC, dI) zz_cl [(q_this, .inr (2, [.ref q_cells, .ref q_beginnings, .int x_height, .int x_width, .int x_imageHeight])), (q_cells, .inl (k_cells, 32, .inr (.inl x_cells)))] U.heap ∧ va_K (dC, dI) zz_cl [(k_cells, .long)] U ∧ va_D (fun _ => True) [(q_this, .inr (2, [.ref q_cells, .ref q_beginnings, .int x_height, .int x_width, .int x_imageHeight])), (q_cells, .inl (k_cells, 32, .inr (.inl x_cells)))])) (qz_RD_swap dC dI q_this q_cells q_beginnings k_cells x_height x_width x_imageHeight post (va_A [(q_this, .inr (2, [.ref q_cells, .ref q_beginnings, .int x_height, .int x_width, .int x_imageHeight])), (q_cells, .inl (k_cells, 32, .inr (.inl x_cells)))] sz)) 0 0 (va_A [(q_this, .inr (2, [.ref q_cells, .ref q_beginnings, .int x_height, .int x_width, .int x_imageHeight])), (q_cells, .inl (k_cells, 32, .inr (.inl x_cells)))] sz) := by
  refine Met.ofW (cc := b_RD_swap) (maxL := 6) (ret := none) (by decide) rfl ?_
  intro p e s m args below meth c s₁ B hml hv
  obtain ⟨rfl, hsz, hP, hK, hD0⟩ := hv
  have hx := B.exec
  have hb := B.bytes
  have hr := B.returns
  have hts0 := atoms_spec (ws := (zz_w y_RD_swap b_RD_swap 6 none)) B.pre
  have hts : ∀ w ∈ zz_GW, w.before _ s = true := fun w h => hts0 w (List.mem_cons_of_mem _ h)
  clear hts0
  have hown : s.vm.findClass "StructureRows$Reduction" = some m.cls := findClass_of_methodNamed B.named
  have hlocks := B.notSynchronized
  have C0 : cx_RD_swap p s m _ meth c := ⟨hx, hb, hr, hml, hown, hts, hlocks⟩
  subst hsz
  have hD := hD0.self (sz := s.heap.size)
  generalize hAe : va_A [(q_this, .inr (2, [.ref q_cells, .ref q_beginnings, .int x_height, .int x_width, .int x_imageHeight])), (q_cells, .inl (k_cells, 32, .inr (.inl x_cells)))] s.heap.size = A at hD ⊢
  have hA : ∀ q : Nat, s.heap.size ≤ q → A q := fun q h => by rw [← hAe]; exact Or.inr h
  clear hAe hD0
  have hS : va_S A s.heap s.heap [] := va_S.rf
  have hl := lv_entry ([.ref q_this, .int a_0, .int a_1]) (n := 6) (Nat.le_of_ble_eq_true rfl)
  rw [lg_entry_eq]
  generalize (lg_sl ([.ref q_this, .int a_0, .int a_1]) ++ List.replicate (6 - (lg_sl ([.ref q_this, .int a_0, .int a_1])).length) Slot.unset).toArray = ls at hl ⊢
  replace hl : lv_has ls 6 [(0, .ref q_this), (1, .int a_0), (2, .int a_1)] := hl
  unfold wp_RD_swap at hw
  change W p l e rm_RD_swap s m _ below meth c s.heap [] 0 0 _ _
  refine lv_iconst (v := 0) hx hb d_RD_swap_0 (by decide) ?_
  refine lv_istore_n (lv' := [(3, .int 0), (0, .ref q_this), (1, .int a_0), (2, .int a_1)]) hx hb d_RD_swap_1 rfl hl (by decide) rfl (fun ls hl => ?_)
  exact k_RD_swap_2 C0 hA hK hw hP hD hS (lv_sub hl [1, 2, 3, 0] rfl)
set_option maxHeartbeats 4000000 in
set_option maxRecDepth 100000 in
theorem go_RD_swap {p : Program} {l : Launch} {e : Env} {R : Room} {s : State} {m : MethodId} {args : Array Value} {below : List Frame} {meth : Method} {c : Code} {H : Heap} {locs : List Loc} {cells slots : Nat} {Q : State → Prop} {cc : ByteArray} {nL : Nat} {Ts : List Cond} {own : String} {index : Nat} {A0 : Nat → Prop} {H0 : Heap} {dC : Nat → ClassId} {dI : Nat → Nat → Nat} {ws wr : va_W} {tys : List (ClassId × FieldType)} {q_this q_cells q_beginnings : Nat} {k_cells : ClassId} {x_height : Int32} {x_width : Int32} {x_imageHeight : Int32} {x_cells : Nat → Int64} {a_0 : Int32} {a_1 : Int32} {post : (Nat → Int64) → Prop} (S : CallFix p m c cc nL s args Ts own) (cw : CallW R s args own "StructureRows$Reduction" index y_RD_swap b_RD_swap 6 none (zz_w y_RD_swap b_RD_swap 6 none) rm_RD_swap 0 0 2) (hK : va_K (dC, dI) zz_cl tys s) (hP : va_P (dC, dI) zz_cl ws H) (hD : va_D A0 ws) (hS : va_S A0 H0 H locs) (hA : ∀ q, H0.size ≤ q → A0 q) (isC isR kt : List Nat) (h1 : isC.filterMap (fun i => ws[i]?) = [(q_this, .inr (2, [.ref q_cells, .ref q_beginnings, .int x_height, .int x_width, .int x_imageHeight])), (q_cells, .inl (k_cells, 32, .inr (.inl x_cells)))]) (h2 : isC.map (fun i => ws[i]?) = ([(q_this, .inr (2, [.ref q_cells, .ref q_beginnings, .int x_height, .int x_width, .int x_imageHeight])), (q_cells, .inl (k_cells, 32, .inr (.inl x_cells)))] : va_W).map some) (h3 : va_nd isC = true) (h4 : isR.map (fun i => ws[i]?) = wr.map some) (h5 : va_nd isR = true) (h6 : ∀ i ∈ isR, i ∉ isC) (h7 : kt.filterMap (fun i => tys[i]?) = [(k_cells, .long)]) (hw : wp_RD_swap x_height x_width x_imageHeight x_cells a_0 a_1 post) {pc : Nat} {ls : Array Slot} {rest : List Value} (hsize : ls.size = nL) (hrest : (rest.map fun v => v.category).sum ≤ 8) (hdg : decode cc pc = .ok (.invokevirtual index, 3)) (hf : cells + 0 ≤ R.cells ∧ slots + 0 ≤ R.slots) (kk : ∀ (m0 : Nat → Int64) (H1 : Heap) (locs1 : List Loc), post m0 → va_P (dC, dI) zz_cl (wr ++ [(q_this, .inr (2, [.ref q_cells, .ref q_beginnings, .int x_height, .int x_width, .int x_imageHeight])), (q_cells, .inl (k_cells, 32, .inr (.inl m0)))]) H1 → va_D A0 (wr ++ [(q_this, .inr (2, [.ref q_cells, .ref q_beginnings, .int x_height, .int x_width, .int x_imageHeight])), (q_cells, .inl (k_cells, 32, .inr (.inl m0)))]) → va_S A0 H0 H1 locs1 → W p l e R s m args below meth c H1 locs1 (cells + 0) (slots + 0) Q (F0 m (pc + 3) ls rest)) : W p l e R s m args below meth c H locs cells slots Q (F0 m pc ls (.int a_1 :: .int a_0 :: .ref q_this :: rest)) := by
  have hPc := hP.sub (ws' := [(q_this, .inr (2, [.ref q_cells, .ref q_beginnings, .int x_height, .int x_width, .int x_imageHeight])), (q_cells, .inl (k_cells, 32, .inr (.inl x_cells)))]) isC h1
  have hDc := hD.sub (ws' := [(q_this, .inr (2, [.ref q_cells, .ref q_beginnings, .int x_height, .int x_width, .int x_imageHeight])), (q_cells, .inl (k_cells, 32, .inr (.inl x_cells)))]) isC h3 h2
  have hKc := hK.sub (tys' := [(k_cells, .long)]) kt h7
  have hFc := va_free (wc := [(q_this, .inr (2, [.ref q_cells, .ref q_beginnings, .int x_height, .int x_width, .int x_imageHeight])), (q_cells, .inl (k_cells, 32, .inr (.inl x_cells)))]) hD hS hA isC h2
  refine va_callv (va_runV (As := [.int a_0, .int a_1]) (rest := rest) S (c_RD_swap l dC dI q_this q_cells q_beginnings k_cells H.size x_height x_width x_imageHeight x_cells a_0 a_1 post hw) cw ⟨zz_blind, va_recv hKc hPc (ci := 2) (q0 := 0) rfl rfl, fun U hU hW => ⟨rfl, by rw [hU], by rw [hU]; exact hPc, va_K.moved hW.alike hKc, hDc.weaken (fun _ _ _ _ => trivial)⟩⟩ rfl rfl hsize rfl (lv_room hrest) hdg hf) hS (fun q _ h => hFc q h) hFc (fun u t H1 locs ht hvm hw hB hz1 hk1 hS => ?_)
  obtain ⟨hP1, hK1, hD1⟩ := hB
  rw [ht] at hP1
  obtain ⟨hP2, hD2⟩ := va_join (wr := wr) (w1 := [(q_this, .inr (2, [.ref q_cells, .ref q_beginnings, .int x_height, .int x_width, .int x_imageHeight])), (q_cells, .inl (k_cells, 32, .inr (.inl u)))]) hP hD isC isR h2 h4 h5 h6 hk1 hFc hP1 hD1
  exact kk u H1 locs hw hP2 hD2 hS
abbrev rm_RD_turnSigns : Room := { frames := 1, cells := 0, slots := 0, locals := 24 }
abbrev qz_RD_turnSigns (dC : Nat → ClassId) (dI : Nat → Nat → Nat) (q_this q_cells q_beginnings : Nat) (k_cells : ClassId) (x_height : Int32) (x_width : Int32) (x_imageHeight : Int32) (post : (Nat → Int64) → Prop) (A : Nat → Prop) : Array Value → State → Outcome → State → Prop := va_Qv (fun (u : (Nat → Int64)) => post u) (fun (u : (Nat → Int64)) (t : State) => va_P (dC, dI) zz_cl [(q_this, .inr (2, [.ref q_cells, .ref q_beginnings, .int x_height, .int x_width, .int x_imageHeight])), (q_cells, .inl (k_cells, 32, .inr (.inl u)))] t.heap ∧ va_K (dC, dI) zz_cl [(k_cells, .long)] t ∧ va_D A [(q_this, .inr (2, [.ref q_cells, .ref q_beginnings, .int x_height, .int x_width, .int x_imageHeight])), (q_cells, .inl (k_cells, 32, .inr (.inl u)))]) A
def cx_RD_turnSigns (p : Program) (s : State) (m : MethodId) (args : Array Value) (meth : Method) (c : Code) : Prop := p.tables.exec = Jvm.exec ∧ c.code = b_RD_turnSigns ∧ meth.sig.returnType = none ∧ c.maxLocals = 3 ∧ s.vm.findClass "StructureRows$Reduction" = some m.cls ∧ (∀ w ∈ zz_GW, w.before args s = true) ∧ meth.locks = false
def wp_RD_turnSigns_2b (x_height : Int32) (x_width : Int32) (x_imageHeight : Int32) (u_1 : Int32) (post : (Nat → Int64) → Prop)  (P : (Nat → Int64) → Int32 → Prop) (x_cells : Nat → Int64) (u_2 : Int32) : Prop := ((x_width + x_height) ≤ u_2 → (post x_cells)) ∧ (¬ (x_width + x_height) ≤ u_2 → (wp_RD_cell x_height x_width x_imageHeight x_cells u_1 u_2 (fun (r_2 : Int64) => (wp_RD_set x_height x_width x_imageHeight x_cells u_1 u_2 (-r_2) (fun (m_3 : Nat → Int64) => (∀ v_4 : Int32, v_4 = u_2 + 1 → (P m_3 v_4)))))))
def wp_RD_turnSigns_2 (x_height : Int32) (x_width : Int32) (x_imageHeight : Int32) (u_1 : Int32) (post : (Nat → Int64) → Prop)  (x_cells : Nat → Int64) (u_2 : Int32) : Prop := ∀ P : (Nat → Int64) → Int32 → Prop, (∀ (x_cells : Nat → Int64) (u_2 : Int32), wp_RD_turnSigns_2b x_height x_width x_imageHeight u_1 post P x_cells u_2 → P x_cells u_2) → P x_cells u_2
set_option maxHeartbeats 4000000 in
set_option maxRecDepth 100000 in
theorem k_RD_turnSigns_2 {p : Program} {l : Launch} {e : Env} {s : State} {m : MethodId} {args : Array Value} {below : List Frame} {meth : Method} {c : Code} {dC : Nat → ClassId} {dI : Nat → Nat → Nat} {A : Nat → Prop} {q_this q_cells q_beginnings : Nat} {k_cells : ClassId} {x_height : Int32} {x_width : Int32} {x_imageHeight : Int32} {u_1 : Int32} {post : (Nat → Int64) → Prop}  (C0 : cx_RD_turnSigns p s m args meth c) (hA : ∀ q : Nat, s.heap.size ≤ q → A q) (hK : va_K (dC, dI) zz_cl [(k_cells, .long)] s) {x_cells : Nat → Int64} {u_2 : Int32} (hw : wp_RD_turnSigns_2 x_height x_width x_imageHeight u_1 post x_cells u_2) {H : Heap} {locs : List Loc} {ls : Array Slot} (hP : va_P (dC, dI) zz_cl [(q_this, .inr (2, [.ref q_cells, .ref q_beginnings, .int x_height, .int x_width, .int x_imageHeight])), (q_cells, .inl (k_cells, 32, .inr (.inl x_cells)))] H) (hD : va_D A [(q_this, .inr (2, [.ref q_cells, .ref q_beginnings, .int x_height, .int x_width, .int x_imageHeight])), (q_cells, .inl (k_cells, 32, .inr (.inl x_cells)))]) (hS : va_S A s.heap H locs) (hl : lv_has ls 3 [(0, .ref q_this), (1, .int u_1), (2, .int u_2)]) : W p l e rm_RD_turnSigns s m args below meth c H locs 0 0 (MQ below (qz_RD_turnSigns dC dI q_this q_cells q_beginnings k_cells x_height x_width x_imageHeight post A) args s 0 0 A) (F0 m 2 ls []) := by
  have C1 := C0
  obtain ⟨hx, hb, hr, hml, hown, hts, hlocks⟩ := C1
  refine hw (fun (x_cells : Nat → Int64) (u_2 : Int32) => ∀ (H : Heap) (locs : List Loc) (ls : Array Slot), va_P (dC, dI) zz_cl [(q_this, .inr (2, [.ref q_cells, .ref q_beginnings, .int x_height, .int x_width, .int x_imageHeight])), (q_cells, .inl (k_cells, 32, .inr (.inl x_cells)))] H → va_D A [(q_this, .inr (2, [.ref q_cells, .ref q_beginnings, .int x_height, .int x_width, .int x_imageHeight])), (q_cells, .inl (k_cells, 32, .inr (.inl x_cells)))] → va_S A s.heap H locs → lv_has ls 3 [(0, .ref q_this), (1, .int u_1), (2, .int u_2)] → W p l e rm_RD_turnSigns s m args below meth c H locs 0 0 (MQ below (qz_RD_turnSigns dC dI q_this q_cells q_beginnings k_cells x_height x_width x_imageHeight post A) args s 0 0 A) (F0 m 2 ls [])) ?_ H locs ls hP hD hS hl
  clear hw hP hD hS hl H locs ls
  intro x_cells u_2 hw H locs ls hP hD hS hl
  unfold wp_RD_turnSigns_2b at hw
  refine lv_iload_n hx hb d_RD_turnSigns_2 rfl (lv_at hl 2 rfl) ?_
  refine lv_aload_n hx hb d_RD_turnSigns_3 rfl (lv_at hl 0 rfl) ?_
  refine va_get (D := (dC, dI)) (ci := 2) (v := .int x_width) (C := "StructureRows$Reduction") (T := T_RD) (N := 5) hx hb hts in_RD hown hK hP 0 rfl rfl 3 (by decide) (hts _ tw_61) (fun _ h9 => h9) rfl d_RD_turnSigns_4 ?_
  refine lv_aload_n hx hb d_RD_turnSigns_7 rfl (lv_at hl 0 rfl) ?_
  refine va_get (D := (dC, dI)) (ci := 2) (v := .int x_height) (C := "StructureRows$Reduction") (T := T_RD) (N := 5) hx hb hts in_RD hown hK hP 0 rfl rfl 2 (by decide) (hts _ tw_60) (fun _ h9 => h9) rfl d_RD_turnSigns_8 ?_
  refine lv_iadd hx hb d_RD_turnSigns_11 ?_
  refine lv_icmp_ge (tgt := 34) hx hb d_RD_turnSigns_12 (by decide) (fun h_1 => ?_) (fun h_1 => ?_)
  · replace hw := hw.1 h_1
    exact W.vret hx hb hr (fun t ht hW => ⟨⟨x_cells, rfl, hw, by rw [ht]; exact hP, va_K.moved hW.alike hK, hD⟩, hS.F ht⟩) hS.2.2 d_RD_turnSigns_34
  · replace hw := hw.2 h_1
    refine lv_aload_n hx hb d_RD_turnSigns_15 rfl (lv_at hl 0 rfl) ?_
    refine lv_iload_n hx hb d_RD_turnSigns_16 rfl (lv_at hl 1 rfl) ?_
    refine lv_iload_n hx hb d_RD_turnSigns_17 rfl (lv_at hl 2 rfl) ?_
    refine lv_aload_n hx hb d_RD_turnSigns_18 rfl (lv_at hl 0 rfl) ?_
    refine lv_iload_n hx hb d_RD_turnSigns_19 rfl (lv_at hl 1 rfl) ?_
    refine lv_iload_n hx hb d_RD_turnSigns_20 rfl (lv_at hl 2 rfl) ?_
    refine go_RD_cell (wr := []) ⟨hx, hb, hml, hown, hts⟩ (zz_cwV 2 hts tw_164 tw_161 tw_163 tw_2 tw_32 ⟨by decide, by decide, by decide +kernel⟩ ⟨Nat.le_of_ble_eq_true rfl, Nat.le_of_ble_eq_true rfl⟩) hK hP hD hS hA [0, 1] [] [0] rfl rfl (by decide) rfl (by decide) (by decide) rfl hw hl.1 (Nat.le_of_ble_eq_true rfl) d_RD_turnSigns_21 ⟨Nat.le_of_ble_eq_true rfl, Nat.le_of_ble_eq_true rfl⟩ (fun r_2 H locs hw hP hD hS => ?_)
    replace hP : va_P (dC, dI) zz_cl [(q_this, .inr (2, [.ref q_cells, .ref q_beginnings, .int x_height, .int x_width, .int x_imageHeight])), (q_cells, .inl (k_cells, 32, .inr (.inl x_cells)))] H := hP
    replace hD : va_D A [(q_this, .inr (2, [.ref q_cells, .ref q_beginnings, .int x_height, .int x_width, .int x_imageHeight])), (q_cells, .inl (k_cells, 32, .inr (.inl x_cells)))] := hD
    refine lv_lneg hx hb d_RD_turnSigns_24 ?_
    refine go_RD_set (wr := []) ⟨hx, hb, hml, hown, hts⟩ (zz_cwV 3 hts tw_151 tw_148 tw_149 tw_150 tw_32 ⟨by decide, by decide, by decide +kernel⟩ ⟨Nat.le_of_ble_eq_true rfl, Nat.le_of_ble_eq_true rfl⟩) hK hP hD hS hA [0, 1] [] [0] rfl rfl (by decide) rfl (by decide) (by decide) rfl hw hl.1 (Nat.le_of_ble_eq_true rfl) d_RD_turnSigns_25 ⟨Nat.le_of_ble_eq_true rfl, Nat.le_of_ble_eq_true rfl⟩ (fun m_3 H locs hw hP hD hS => ?_)
    replace hP : va_P (dC, dI) zz_cl [(q_this, .inr (2, [.ref q_cells, .ref q_beginnings, .int x_height, .int x_width, .int x_imageHeight])), (q_cells, .inl (k_cells, 32, .inr (.inl m_3)))] H := hP
    replace hD : va_D A [(q_this, .inr (2, [.ref q_cells, .ref q_beginnings, .int x_height, .int x_width, .int x_imageHeight])), (q_cells, .inl (k_cells, 32, .inr (.inl m_3)))] := hD
    obtain ⟨v_4, ev_4⟩ : ∃ y : Int32, y = u_2 + 1 := ⟨_, rfl⟩
    replace hw := hw v_4 ev_4
    refine lv_iinc (v := v_4) (lv' := [(2, .int v_4), (0, .ref q_this), (1, .int u_1)]) hx hb d_RD_turnSigns_28 hl (k := 2) rfl (by rw [ev_4]; rfl) (by decide) rfl (fun ls hl => ?_)
    refine lv_goto (tgt := 2) hx hb d_RD_turnSigns_31 (by decide) ?_
    exact hw H locs ls hP hD hS (lv_sub hl [1, 2, 0] rfl)
def wp_RD_turnSigns (x_height : Int32) (x_width : Int32) (x_imageHeight : Int32) (x_cells : Nat → Int64) (a_0 : Int32) (post : (Nat → Int64) → Prop) : Prop := wp_RD_turnSigns_2 x_height x_width x_imageHeight a_0 post x_cells 0
set_option maxHeartbeats 4000000 in
set_option maxRecDepth 100000 in
theorem c_RD_turnSigns (l : Launch) (dC : Nat → ClassId) (dI : Nat → Nat → Nat) (q_this q_cells q_beginnings : Nat) (k_cells : ClassId) (sz : Nat) (x_height : Int32) (x_width : Int32) (x_imageHeight : Int32) (x_cells : Nat → Int64) (a_0 : Int32) (post : (Nat → Int64) → Prop) (hw : wp_RD_turnSigns x_height x_width x_imageHeight x_cells a_0 post) : Met l y_RD_turnSigns (zz_w y_RD_turnSigns b_RD_turnSigns 3 none) rm_RD_turnSigns (va_Pc [.ref q_this, .int a_0] (fun U => U.heap.size = sz ∧ va_P (dC, dI) zz_cl [(q_this, .inr (2, [.ref q_cells, .ref q_beginnings, .int x_height, .int x_width, .int x_imageHeight])), (q_cells, .inl (k_cells, 32, .inr (.inl x_cells)))] U.heap ∧ va_K (dC, dI) zz_cl [(k_cells, .long)] U ∧ va_D (fun _ => True) [(q_this, .inr (2, [.ref q_cells, .ref q_beginnings, .int x_height, .int x_width, .int x_imageHeight])), (q_cells, .inl (k_cells, 32, .inr (.inl x_cells)))])) (qz_RD_turnSigns dC dI q_this q_cells q_beginnings k_cells x_height x_width x_imageHeight post (va_A [(q_this, .inr (2, [.ref q_cells, .ref q_beginnings, .int x_height, .int x_width, .int x_imageHeight])), (q_cells, .inl (k_cells, 32, .inr (.inl x_cells)))] sz)) 0 0 (va_A [(q_this, .inr (2, [.ref q_cells, .ref q_beginnings, .int x_height, .int x_width, .int x_imageHeight])), (q_cells, .inl (k_cells, 32, .inr (.inl x_cells)))] sz) := by
  refine Met.ofW (cc := b_RD_turnSigns) (maxL := 3) (ret := none) (by decide) rfl ?_
  intro p e s m args below meth c s₁ B hml hv
  obtain ⟨rfl, hsz, hP, hK, hD0⟩ := hv
  have hx := B.exec
  have hb := B.bytes
  have hr := B.returns
  have hts0 := atoms_spec (ws := (zz_w y_RD_turnSigns b_RD_turnSigns 3 none)) B.pre
  have hts : ∀ w ∈ zz_GW, w.before _ s = true := fun w h => hts0 w (List.mem_cons_of_mem _ h)
  clear hts0
  have hown : s.vm.findClass "StructureRows$Reduction" = some m.cls := findClass_of_methodNamed B.named
  have hlocks := B.notSynchronized
  have C0 : cx_RD_turnSigns p s m _ meth c := ⟨hx, hb, hr, hml, hown, hts, hlocks⟩
  subst hsz
  have hD := hD0.self (sz := s.heap.size)
  generalize hAe : va_A [(q_this, .inr (2, [.ref q_cells, .ref q_beginnings, .int x_height, .int x_width, .int x_imageHeight])), (q_cells, .inl (k_cells, 32, .inr (.inl x_cells)))] s.heap.size = A at hD ⊢
  have hA : ∀ q : Nat, s.heap.size ≤ q → A q := fun q h => by rw [← hAe]; exact Or.inr h
  clear hAe hD0
  have hS : va_S A s.heap s.heap [] := va_S.rf
  have hl := lv_entry ([.ref q_this, .int a_0]) (n := 3) (Nat.le_of_ble_eq_true rfl)
  rw [lg_entry_eq]
  generalize (lg_sl ([.ref q_this, .int a_0]) ++ List.replicate (3 - (lg_sl ([.ref q_this, .int a_0])).length) Slot.unset).toArray = ls at hl ⊢
  replace hl : lv_has ls 3 [(0, .ref q_this), (1, .int a_0)] := hl
  unfold wp_RD_turnSigns at hw
  change W p l e rm_RD_turnSigns s m _ below meth c s.heap [] 0 0 _ _
  refine lv_iconst (v := 0) hx hb d_RD_turnSigns_0 (by decide) ?_
  refine lv_istore_n (lv' := [(2, .int 0), (0, .ref q_this), (1, .int a_0)]) hx hb d_RD_turnSigns_1 rfl hl (by decide) rfl (fun ls hl => ?_)
  exact k_RD_turnSigns_2 C0 hA hK hw hP hD hS (lv_sub hl [1, 2, 0] rfl)
set_option maxHeartbeats 4000000 in
set_option maxRecDepth 100000 in
theorem go_RD_turnSigns {p : Program} {l : Launch} {e : Env} {R : Room} {s : State} {m : MethodId} {args : Array Value} {below : List Frame} {meth : Method} {c : Code} {H : Heap} {locs : List Loc} {cells slots : Nat} {Q : State → Prop} {cc : ByteArray} {nL : Nat} {Ts : List Cond} {own : String} {index : Nat} {A0 : Nat → Prop} {H0 : Heap} {dC : Nat → ClassId} {dI : Nat → Nat → Nat} {ws wr : va_W} {tys : List (ClassId × FieldType)} {q_this q_cells q_beginnings : Nat} {k_cells : ClassId} {x_height : Int32} {x_width : Int32} {x_imageHeight : Int32} {x_cells : Nat → Int64} {a_0 : Int32} {post : (Nat → Int64) → Prop} (S : CallFix p m c cc nL s args Ts own) (cw : CallW R s args own "StructureRows$Reduction" index y_RD_turnSigns b_RD_turnSigns 3 none (zz_w y_RD_turnSigns b_RD_turnSigns 3 none) rm_RD_turnSigns 0 0 1) (hK : va_K (dC, dI) zz_cl tys s) (hP : va_P (dC, dI) zz_cl ws H) (hD : va_D A0 ws) (hS : va_S A0 H0 H locs) (hA : ∀ q, H0.size ≤ q → A0 q) (isC isR kt : List Nat) (h1 : isC.filterMap (fun i => ws[i]?) = [(q_this, .inr (2, [.ref q_cells, .ref q_beginnings, .int x_height, .int x_width, .int x_imageHeight])), (q_cells, .inl (k_cells, 32, .inr (.inl x_cells)))]) (h2 : isC.map (fun i => ws[i]?) = ([(q_this, .inr (2, [.ref q_cells, .ref q_beginnings, .int x_height, .int x_width, .int x_imageHeight])), (q_cells, .inl (k_cells, 32, .inr (.inl x_cells)))] : va_W).map some) (h3 : va_nd isC = true) (h4 : isR.map (fun i => ws[i]?) = wr.map some) (h5 : va_nd isR = true) (h6 : ∀ i ∈ isR, i ∉ isC) (h7 : kt.filterMap (fun i => tys[i]?) = [(k_cells, .long)]) (hw : wp_RD_turnSigns x_height x_width x_imageHeight x_cells a_0 post) {pc : Nat} {ls : Array Slot} {rest : List Value} (hsize : ls.size = nL) (hrest : (rest.map fun v => v.category).sum ≤ 8) (hdg : decode cc pc = .ok (.invokevirtual index, 3)) (hf : cells + 0 ≤ R.cells ∧ slots + 0 ≤ R.slots) (kk : ∀ (m0 : Nat → Int64) (H1 : Heap) (locs1 : List Loc), post m0 → va_P (dC, dI) zz_cl (wr ++ [(q_this, .inr (2, [.ref q_cells, .ref q_beginnings, .int x_height, .int x_width, .int x_imageHeight])), (q_cells, .inl (k_cells, 32, .inr (.inl m0)))]) H1 → va_D A0 (wr ++ [(q_this, .inr (2, [.ref q_cells, .ref q_beginnings, .int x_height, .int x_width, .int x_imageHeight])), (q_cells, .inl (k_cells, 32, .inr (.inl m0)))]) → va_S A0 H0 H1 locs1 → W p l e R s m args below meth c H1 locs1 (cells + 0) (slots + 0) Q (F0 m (pc + 3) ls rest)) : W p l e R s m args below meth c H locs cells slots Q (F0 m pc ls (.int a_0 :: .ref q_this :: rest)) := by
  have hPc := hP.sub (ws' := [(q_this, .inr (2, [.ref q_cells, .ref q_beginnings, .int x_height, .int x_width, .int x_imageHeight])), (q_cells, .inl (k_cells, 32, .inr (.inl x_cells)))]) isC h1
  have hDc := hD.sub (ws' := [(q_this, .inr (2, [.ref q_cells, .ref q_beginnings, .int x_height, .int x_width, .int x_imageHeight])), (q_cells, .inl (k_cells, 32, .inr (.inl x_cells)))]) isC h3 h2
  have hKc := hK.sub (tys' := [(k_cells, .long)]) kt h7
  have hFc := va_free (wc := [(q_this, .inr (2, [.ref q_cells, .ref q_beginnings, .int x_height, .int x_width, .int x_imageHeight])), (q_cells, .inl (k_cells, 32, .inr (.inl x_cells)))]) hD hS hA isC h2
  refine va_callv (va_runV (As := [.int a_0]) (rest := rest) S (c_RD_turnSigns l dC dI q_this q_cells q_beginnings k_cells H.size x_height x_width x_imageHeight x_cells a_0 post hw) cw ⟨zz_blind, va_recv hKc hPc (ci := 2) (q0 := 0) rfl rfl, fun U hU hW => ⟨rfl, by rw [hU], by rw [hU]; exact hPc, va_K.moved hW.alike hKc, hDc.weaken (fun _ _ _ _ => trivial)⟩⟩ rfl rfl hsize rfl (lv_room hrest) hdg hf) hS (fun q _ h => hFc q h) hFc (fun u t H1 locs ht hvm hw hB hz1 hk1 hS => ?_)
  obtain ⟨hP1, hK1, hD1⟩ := hB
  rw [ht] at hP1
  obtain ⟨hP2, hD2⟩ := va_join (wr := wr) (w1 := [(q_this, .inr (2, [.ref q_cells, .ref q_beginnings, .int x_height, .int x_width, .int x_imageHeight])), (q_cells, .inl (k_cells, 32, .inr (.inl u)))]) hP hD isC isR h2 h4 h5 h6 hk1 hFc hP1 hD1
  exact kk u H1 locs hw hP2 hD2 hS
abbrev rm_RD_clearNewest : Room := { frames := 2, cells := 0, slots := 0, locals := 49 }
abbrev qz_RD_clearNewest (dC : Nat → ClassId) (dI : Nat → Nat → Nat) (q_this q_cells q_beginnings : Nat) (k_cells : ClassId) (x_height : Int32) (x_width : Int32) (x_imageHeight : Int32) (post : (Nat → Int64) → Prop) (A : Nat → Prop) : Array Value → State → Outcome → State → Prop := va_Qv (fun (u : (Nat → Int64)) => post u) (fun (u : (Nat → Int64)) (t : State) => va_P (dC, dI) zz_cl [(q_this, .inr (2, [.ref q_cells, .ref q_beginnings, .int x_height, .int x_width, .int x_imageHeight])), (q_cells, .inl (k_cells, 32, .inr (.inl u)))] t.heap ∧ va_K (dC, dI) zz_cl [(k_cells, .long)] t ∧ va_D A [(q_this, .inr (2, [.ref q_cells, .ref q_beginnings, .int x_height, .int x_width, .int x_imageHeight])), (q_cells, .inl (k_cells, 32, .inr (.inl u)))]) A
def cx_RD_clearNewest (p : Program) (s : State) (m : MethodId) (args : Array Value) (meth : Method) (c : Code) : Prop := p.tables.exec = Jvm.exec ∧ c.code = b_RD_clearNewest ∧ meth.sig.returnType = none ∧ c.maxLocals = 5 ∧ s.vm.findClass "StructureRows$Reduction" = some m.cls ∧ (∀ w ∈ zz_GW, w.before args s = true) ∧ meth.locks = false
def wp_RD_clearNewest_53 (x_height : Int32) (x_width : Int32) (x_imageHeight : Int32) (u_1 : Int32) (u_3 : Int32) (post : (Nat → Int64) → Prop)  (x_cells : Nat → Int64) : Prop := wp_RD_cell x_height x_width x_imageHeight x_cells u_1 u_3 (fun (r_2 : Int64) => ((0 ≤ (lg_cmp r_2 0) → (post x_cells)) ∧ (¬ 0 ≤ (lg_cmp r_2 0) → (wp_RD_turnSigns x_height x_width x_imageHeight x_cells u_1 (fun (m_4 : Nat → Int64) => (post m_4))))))
set_option maxHeartbeats 4000000 in
set_option maxRecDepth 100000 in
theorem k_RD_clearNewest_53 {p : Program} {l : Launch} {e : Env} {s : State} {m : MethodId} {args : Array Value} {below : List Frame} {meth : Method} {c : Code} {dC : Nat → ClassId} {dI : Nat → Nat → Nat} {A : Nat → Prop} {q_this q_cells q_beginnings : Nat} {k_cells : ClassId} {x_height : Int32} {x_width : Int32} {x_imageHeight : Int32} {u_1 : Int32} {u_3 : Int32} {post : (Nat → Int64) → Prop}  (C0 : cx_RD_clearNewest p s m args meth c) (hA : ∀ q : Nat, s.heap.size ≤ q → A q) (hK : va_K (dC, dI) zz_cl [(k_cells, .long)] s) {x_cells : Nat → Int64} (hw : wp_RD_clearNewest_53 x_height x_width x_imageHeight u_1 u_3 post x_cells) {H : Heap} {locs : List Loc} {ls : Array Slot} (hP : va_P (dC, dI) zz_cl [(q_this, .inr (2, [.ref q_cells, .ref q_beginnings, .int x_height, .int x_width, .int x_imageHeight])), (q_cells, .inl (k_cells, 32, .inr (.inl x_cells)))] H) (hD : va_D A [(q_this, .inr (2, [.ref q_cells, .ref q_beginnings, .int x_height, .int x_width, .int x_imageHeight])), (q_cells, .inl (k_cells, 32, .inr (.inl x_cells)))]) (hS : va_S A s.heap H locs) (hl : lv_has ls 5 [(0, .ref q_this), (1, .int u_1), (3, .int u_3)]) : W p l e rm_RD_clearNewest s m args below meth c H locs 0 0 (MQ below (qz_RD_clearNewest dC dI q_this q_cells q_beginnings k_cells x_height x_width x_imageHeight post A) args s 0 0 A) (F0 m 53 ls []) := by
  have C1 := C0
  obtain ⟨hx, hb, hr, hml, hown, hts, hlocks⟩ := C1
  unfold wp_RD_clearNewest_53 at hw
  refine lv_aload_n hx hb d_RD_clearNewest_53 rfl (lv_at hl 0 rfl) ?_
  refine lv_iload_n hx hb d_RD_clearNewest_54 rfl (lv_at hl 1 rfl) ?_
  refine lv_iload_n hx hb d_RD_clearNewest_55 rfl (lv_at hl 2 rfl) ?_
  refine go_RD_cell (wr := []) ⟨hx, hb, hml, hown, hts⟩ (zz_cwV 2 hts tw_164 tw_161 tw_163 tw_2 tw_32 ⟨by decide, by decide, by decide +kernel⟩ ⟨Nat.le_of_ble_eq_true rfl, Nat.le_of_ble_eq_true rfl⟩) hK hP hD hS hA [0, 1] [] [0] rfl rfl (by decide) rfl (by decide) (by decide) rfl hw hl.1 (Nat.le_of_ble_eq_true rfl) d_RD_clearNewest_56 ⟨Nat.le_of_ble_eq_true rfl, Nat.le_of_ble_eq_true rfl⟩ (fun r_2 H locs hw hP hD hS => ?_)
  replace hP : va_P (dC, dI) zz_cl [(q_this, .inr (2, [.ref q_cells, .ref q_beginnings, .int x_height, .int x_width, .int x_imageHeight])), (q_cells, .inl (k_cells, 32, .inr (.inl x_cells)))] H := hP
  replace hD : va_D A [(q_this, .inr (2, [.ref q_cells, .ref q_beginnings, .int x_height, .int x_width, .int x_imageHeight])), (q_cells, .inl (k_cells, 32, .inr (.inl x_cells)))] := hD
  refine lv_lconst (v := 0) hx hb d_RD_clearNewest_59 (by decide) ?_
  refine W.lcmp hx hb d_RD_clearNewest_60 ?_
  refine lv_if_ge (tgt := 69) hx hb d_RD_clearNewest_61 (by decide) (fun h_3 => ?_) (fun h_3 => ?_)
  · replace hw := hw.1 h_3
    exact W.vret hx hb hr (fun t ht hW => ⟨⟨x_cells, rfl, hw, by rw [ht]; exact hP, va_K.moved hW.alike hK, hD⟩, hS.F ht⟩) hS.2.2 d_RD_clearNewest_69
  · replace hw := hw.2 h_3
    refine lv_aload_n hx hb d_RD_clearNewest_64 rfl (lv_at hl 0 rfl) ?_
    refine lv_iload_n hx hb d_RD_clearNewest_65 rfl (lv_at hl 1 rfl) ?_
    refine go_RD_turnSigns (wr := []) ⟨hx, hb, hml, hown, hts⟩ (zz_cwV 1 hts tw_180 tw_177 tw_179 tw_6 tw_32 ⟨by decide, by decide, by decide +kernel⟩ ⟨Nat.le_of_ble_eq_true rfl, Nat.le_of_ble_eq_true rfl⟩) hK hP hD hS hA [0, 1] [] [0] rfl rfl (by decide) rfl (by decide) (by decide) rfl hw hl.1 (Nat.le_of_ble_eq_true rfl) d_RD_clearNewest_66 ⟨Nat.le_of_ble_eq_true rfl, Nat.le_of_ble_eq_true rfl⟩ (fun m_4 H locs hw hP hD hS => ?_)
    replace hP : va_P (dC, dI) zz_cl [(q_this, .inr (2, [.ref q_cells, .ref q_beginnings, .int x_height, .int x_width, .int x_imageHeight])), (q_cells, .inl (k_cells, 32, .inr (.inl m_4)))] H := hP
    replace hD : va_D A [(q_this, .inr (2, [.ref q_cells, .ref q_beginnings, .int x_height, .int x_width, .int x_imageHeight])), (q_cells, .inl (k_cells, 32, .inr (.inl m_4)))] := hD
    exact W.vret hx hb hr (fun t ht hW => ⟨⟨m_4, rfl, hw, by rw [ht]; exact hP, va_K.moved hW.alike hK, hD⟩, hS.F ht⟩) hS.2.2 d_RD_clearNewest_69
def wp_RD_clearNewest_3b (x_height : Int32) (x_width : Int32) (x_imageHeight : Int32) (u_1 : Int32) (u_2 : Int32) (u_3 : Int32) (post : (Nat → Int64) → Prop)  (P : (Nat → Int64) → Int32 → Prop) (x_cells : Nat → Int64) (u_4 : Int32) : Prop := (1000 ≤ u_4 → (wp_RD_clearNewest_53 x_height x_width x_imageHeight u_1 u_3 post x_cells)) ∧ (¬ 1000 ≤ u_4 → (wp_RD_cell x_height x_width x_imageHeight x_cells u_2 u_3 (fun (r_5 : Int64) => (((lg_cmp r_5 0) = 0 → (wp_RD_clearNewest_53 x_height x_width x_imageHeight u_1 u_3 post x_cells)) ∧ (¬ (lg_cmp r_5 0) = 0 → (wp_RD_cell x_height x_width x_imageHeight x_cells u_1 u_3 (fun (r_7 : Int64) => (wp_RD_cell x_height x_width x_imageHeight x_cells u_2 u_3 (fun (r_8 : Int64) => (¬ r_8 = 0 ∧ (wp_RD_takeAway x_height x_width x_imageHeight x_cells u_1 u_2 (r_7 / r_8) (fun (m_10 : Nat → Int64) => (wp_RD_swap x_height x_width x_imageHeight m_10 u_1 u_2 (fun (m_11 : Nat → Int64) => (∀ v_12 : Int32, v_12 = u_4 + 1 → (P m_11 v_12))))))))))))))))
def wp_RD_clearNewest_3 (x_height : Int32) (x_width : Int32) (x_imageHeight : Int32) (u_1 : Int32) (u_2 : Int32) (u_3 : Int32) (post : (Nat → Int64) → Prop)  (x_cells : Nat → Int64) (u_4 : Int32) : Prop := ∀ P : (Nat → Int64) → Int32 → Prop, (∀ (x_cells : Nat → Int64) (u_4 : Int32), wp_RD_clearNewest_3b x_height x_width x_imageHeight u_1 u_2 u_3 post P x_cells u_4 → P x_cells u_4) → P x_cells u_4
set_option maxHeartbeats 4000000 in
set_option maxRecDepth 100000 in
theorem k_RD_clearNewest_3 {p : Program} {l : Launch} {e : Env} {s : State} {m : MethodId} {args : Array Value} {below : List Frame} {meth : Method} {c : Code} {dC : Nat → ClassId} {dI : Nat → Nat → Nat} {A : Nat → Prop} {q_this q_cells q_beginnings : Nat} {k_cells : ClassId} {x_height : Int32} {x_width : Int32} {x_imageHeight : Int32} {u_1 : Int32} {u_2 : Int32} {u_3 : Int32} {post : (Nat → Int64) → Prop}  (C0 : cx_RD_clearNewest p s m args meth c) (hA : ∀ q : Nat, s.heap.size ≤ q → A q) (hK : va_K (dC, dI) zz_cl [(k_cells, .long)] s) {x_cells : Nat → Int64} {u_4 : Int32} (hw : wp_RD_clearNewest_3 x_height x_width x_imageHeight u_1 u_2 u_3 post x_cells u_4) {H : Heap} {locs : List Loc} {ls : Array Slot} (hP : va_P (dC, dI) zz_cl [(q_this, .inr (2, [.ref q_cells, .ref q_beginnings, .int x_height, .int x_width, .int x_imageHeight])), (q_cells, .inl (k_cells, 32, .inr (.inl x_cells)))] H) (hD : va_D A [(q_this, .inr (2, [.ref q_cells, .ref q_beginnings, .int x_height, .int x_width, .int x_imageHeight])), (q_cells, .inl (k_cells, 32, .inr (.inl x_cells)))]) (hS : va_S A s.heap H locs) (hl : lv_has ls 5 [(0, .ref q_this), (1, .int u_1), (2, .int u_2), (3, .int u_3), (4, .int u_4)]) : W p l e rm_RD_clearNewest s m args below meth c H locs 0 0 (MQ below (qz_RD_clearNewest dC dI q_this q_cells q_beginnings k_cells x_height x_width x_imageHeight post A) args s 0 0 A) (F0 m 3 ls []) := by
  have C1 := C0
  obtain ⟨hx, hb, hr, hml, hown, hts, hlocks⟩ := C1
  refine hw (fun (x_cells : Nat → Int64) (u_4 : Int32) => ∀ (H : Heap) (locs : List Loc) (ls : Array Slot), va_P (dC, dI) zz_cl [(q_this, .inr (2, [.ref q_cells, .ref q_beginnings, .int x_height, .int x_width, .int x_imageHeight])), (q_cells, .inl (k_cells, 32, .inr (.inl x_cells)))] H → va_D A [(q_this, .inr (2, [.ref q_cells, .ref q_beginnings, .int x_height, .int x_width, .int x_imageHeight])), (q_cells, .inl (k_cells, 32, .inr (.inl x_cells)))] → va_S A s.heap H locs → lv_has ls 5 [(0, .ref q_this), (1, .int u_1), (2, .int u_2), (3, .int u_3), (4, .int u_4)] → W p l e rm_RD_clearNewest s m args below meth c H locs 0 0 (MQ below (qz_RD_clearNewest dC dI q_this q_cells q_beginnings k_cells x_height x_width x_imageHeight post A) args s 0 0 A) (F0 m 3 ls [])) ?_ H locs ls hP hD hS hl
  clear hw hP hD hS hl H locs ls
  intro x_cells u_4 hw H locs ls hP hD hS hl
  unfold wp_RD_clearNewest_3b at hw
  refine lv_iload hx hb d_RD_clearNewest_3 (lv_at hl 4 rfl) ?_
  refine lv_sipush (v := 1000) hx hb d_RD_clearNewest_5 (by decide) ?_
  refine lv_icmp_ge (tgt := 53) hx hb d_RD_clearNewest_8 (by decide) (fun h_1 => ?_) (fun h_1 => ?_)
  · replace hw := hw.1 h_1
    exact k_RD_clearNewest_53 C0 hA hK hw hP hD hS (lv_sub hl [0, 1, 3] rfl)
  · replace hw := hw.2 h_1
    refine lv_aload_n hx hb d_RD_clearNewest_11 rfl (lv_at hl 0 rfl) ?_
    refine lv_iload_n hx hb d_RD_clearNewest_12 rfl (lv_at hl 2 rfl) ?_
    refine lv_iload_n hx hb d_RD_clearNewest_13 rfl (lv_at hl 3 rfl) ?_
    refine go_RD_cell (wr := []) ⟨hx, hb, hml, hown, hts⟩ (zz_cwV 2 hts tw_164 tw_161 tw_163 tw_2 tw_32 ⟨by decide, by decide, by decide +kernel⟩ ⟨Nat.le_of_ble_eq_true rfl, Nat.le_of_ble_eq_true rfl⟩) hK hP hD hS hA [0, 1] [] [0] rfl rfl (by decide) rfl (by decide) (by decide) rfl hw hl.1 (Nat.le_of_ble_eq_true rfl) d_RD_clearNewest_14 ⟨Nat.le_of_ble_eq_true rfl, Nat.le_of_ble_eq_true rfl⟩ (fun r_5 H locs hw hP hD hS => ?_)
    replace hP : va_P (dC, dI) zz_cl [(q_this, .inr (2, [.ref q_cells, .ref q_beginnings, .int x_height, .int x_width, .int x_imageHeight])), (q_cells, .inl (k_cells, 32, .inr (.inl x_cells)))] H := hP
    replace hD : va_D A [(q_this, .inr (2, [.ref q_cells, .ref q_beginnings, .int x_height, .int x_width, .int x_imageHeight])), (q_cells, .inl (k_cells, 32, .inr (.inl x_cells)))] := hD
    refine lv_lconst (v := 0) hx hb d_RD_clearNewest_17 (by decide) ?_
    refine W.lcmp hx hb d_RD_clearNewest_18 ?_
    refine lv_if_eq (tgt := 53) hx hb d_RD_clearNewest_19 (by decide) (fun h_6 => ?_) (fun h_6 => ?_)
    · replace hw := hw.1 h_6
      exact k_RD_clearNewest_53 C0 hA hK hw hP hD hS (lv_sub hl [0, 1, 3] rfl)
    · replace hw := hw.2 h_6
      refine lv_aload_n hx hb d_RD_clearNewest_22 rfl (lv_at hl 0 rfl) ?_
      refine lv_iload_n hx hb d_RD_clearNewest_23 rfl (lv_at hl 1 rfl) ?_
      refine lv_iload_n hx hb d_RD_clearNewest_24 rfl (lv_at hl 2 rfl) ?_
      refine lv_aload_n hx hb d_RD_clearNewest_25 rfl (lv_at hl 0 rfl) ?_
      refine lv_iload_n hx hb d_RD_clearNewest_26 rfl (lv_at hl 1 rfl) ?_
      refine lv_iload_n hx hb d_RD_clearNewest_27 rfl (lv_at hl 3 rfl) ?_
      refine go_RD_cell (wr := []) ⟨hx, hb, hml, hown, hts⟩ (zz_cwV 2 hts tw_164 tw_161 tw_163 tw_2 tw_32 ⟨by decide, by decide, by decide +kernel⟩ ⟨Nat.le_of_ble_eq_true rfl, Nat.le_of_ble_eq_true rfl⟩) hK hP hD hS hA [0, 1] [] [0] rfl rfl (by decide) rfl (by decide) (by decide) rfl hw hl.1 (Nat.le_of_ble_eq_true rfl) d_RD_clearNewest_28 ⟨Nat.le_of_ble_eq_true rfl, Nat.le_of_ble_eq_true rfl⟩ (fun r_7 H locs hw hP hD hS => ?_)
      replace hP : va_P (dC, dI) zz_cl [(q_this, .inr (2, [.ref q_cells, .ref q_beginnings, .int x_height, .int x_width, .int x_imageHeight])), (q_cells, .inl (k_cells, 32, .inr (.inl x_cells)))] H := hP
      replace hD : va_D A [(q_this, .inr (2, [.ref q_cells, .ref q_beginnings, .int x_height, .int x_width, .int x_imageHeight])), (q_cells, .inl (k_cells, 32, .inr (.inl x_cells)))] := hD
      refine lv_aload_n hx hb d_RD_clearNewest_31 rfl (lv_at hl 0 rfl) ?_
      refine lv_iload_n hx hb d_RD_clearNewest_32 rfl (lv_at hl 2 rfl) ?_
      refine lv_iload_n hx hb d_RD_clearNewest_33 rfl (lv_at hl 3 rfl) ?_
      refine go_RD_cell (wr := []) ⟨hx, hb, hml, hown, hts⟩ (zz_cwV 2 hts tw_164 tw_161 tw_163 tw_2 tw_32 ⟨by decide, by decide, by decide +kernel⟩ ⟨Nat.le_of_ble_eq_true rfl, Nat.le_of_ble_eq_true rfl⟩) hK hP hD hS hA [0, 1] [] [0] rfl rfl (by decide) rfl (by decide) (by decide) rfl hw hl.1 (Nat.le_of_ble_eq_true rfl) d_RD_clearNewest_34 ⟨Nat.le_of_ble_eq_true rfl, Nat.le_of_ble_eq_true rfl⟩ (fun r_8 H locs hw hP hD hS => ?_)
      replace hP : va_P (dC, dI) zz_cl [(q_this, .inr (2, [.ref q_cells, .ref q_beginnings, .int x_height, .int x_width, .int x_imageHeight])), (q_cells, .inl (k_cells, 32, .inr (.inl x_cells)))] H := hP
      replace hD : va_D A [(q_this, .inr (2, [.ref q_cells, .ref q_beginnings, .int x_height, .int x_width, .int x_imageHeight])), (q_cells, .inl (k_cells, 32, .inr (.inl x_cells)))] := hD
      obtain ⟨h_9, hw⟩ := hw
      refine lv_ldiv hx hb d_RD_clearNewest_37 h_9 ?_
      refine go_RD_takeAway (wr := []) ⟨hx, hb, hml, hown, hts⟩ (zz_cwV 3 hts tw_172 tw_169 tw_171 tw_4 tw_32 ⟨by decide, by decide, by decide +kernel⟩ ⟨Nat.le_of_ble_eq_true rfl, Nat.le_of_ble_eq_true rfl⟩) hK hP hD hS hA [0, 1] [] [0] rfl rfl (by decide) rfl (by decide) (by decide) rfl hw hl.1 (Nat.le_of_ble_eq_true rfl) d_RD_clearNewest_38 ⟨Nat.le_of_ble_eq_true rfl, Nat.le_of_ble_eq_true rfl⟩ (fun m_10 H locs hw hP hD hS => ?_)
      replace hP : va_P (dC, dI) zz_cl [(q_this, .inr (2, [.ref q_cells, .ref q_beginnings, .int x_height, .int x_width, .int x_imageHeight])), (q_cells, .inl (k_cells, 32, .inr (.inl m_10)))] H := hP
      replace hD : va_D A [(q_this, .inr (2, [.ref q_cells, .ref q_beginnings, .int x_height, .int x_width, .int x_imageHeight])), (q_cells, .inl (k_cells, 32, .inr (.inl m_10)))] := hD
      refine lv_aload_n hx hb d_RD_clearNewest_41 rfl (lv_at hl 0 rfl) ?_
      refine lv_iload_n hx hb d_RD_clearNewest_42 rfl (lv_at hl 1 rfl) ?_
      refine lv_iload_n hx hb d_RD_clearNewest_43 rfl (lv_at hl 2 rfl) ?_
      refine go_RD_swap (wr := []) ⟨hx, hb, hml, hown, hts⟩ (zz_cwV 2 hts tw_176 tw_173 tw_175 tw_5 tw_32 ⟨by decide, by decide, by decide +kernel⟩ ⟨Nat.le_of_ble_eq_true rfl, Nat.le_of_ble_eq_true rfl⟩) hK hP hD hS hA [0, 1] [] [0] rfl rfl (by decide) rfl (by decide) (by decide) rfl hw hl.1 (Nat.le_of_ble_eq_true rfl) d_RD_clearNewest_44 ⟨Nat.le_of_ble_eq_true rfl, Nat.le_of_ble_eq_true rfl⟩ (fun m_11 H locs hw hP hD hS => ?_)
      replace hP : va_P (dC, dI) zz_cl [(q_this, .inr (2, [.ref q_cells, .ref q_beginnings, .int x_height, .int x_width, .int x_imageHeight])), (q_cells, .inl (k_cells, 32, .inr (.inl m_11)))] H := hP
      replace hD : va_D A [(q_this, .inr (2, [.ref q_cells, .ref q_beginnings, .int x_height, .int x_width, .int x_imageHeight])), (q_cells, .inl (k_cells, 32, .inr (.inl m_11)))] := hD
      obtain ⟨v_12, ev_12⟩ : ∃ y : Int32, y = u_4 + 1 := ⟨_, rfl⟩
      replace hw := hw v_12 ev_12
      refine lv_iinc (v := v_12) (lv' := [(4, .int v_12), (0, .ref q_this), (1, .int u_1), (2, .int u_2), (3, .int u_3)]) hx hb d_RD_clearNewest_47 hl (k := 4) rfl (by rw [ev_12]; rfl) (by decide) rfl (fun ls hl => ?_)
      refine lv_goto (tgt := 3) hx hb d_RD_clearNewest_50 (by decide) ?_
      exact hw H locs ls hP hD hS (lv_sub hl [1, 2, 3, 4, 0] rfl)
def wp_RD_clearNewest (x_height : Int32) (x_width : Int32) (x_imageHeight : Int32) (x_cells : Nat → Int64) (a_0 : Int32) (a_1 : Int32) (a_2 : Int32) (post : (Nat → Int64) → Prop) : Prop := wp_RD_clearNewest_3 x_height x_width x_imageHeight a_0 a_1 a_2 post x_cells 0
set_option maxHeartbeats 4000000 in
set_option maxRecDepth 100000 in
theorem c_RD_clearNewest (l : Launch) (dC : Nat → ClassId) (dI : Nat → Nat → Nat) (q_this q_cells q_beginnings : Nat) (k_cells : ClassId) (sz : Nat) (x_height : Int32) (x_width : Int32) (x_imageHeight : Int32) (x_cells : Nat → Int64) (a_0 : Int32) (a_1 : Int32) (a_2 : Int32) (post : (Nat → Int64) → Prop) (hw : wp_RD_clearNewest x_height x_width x_imageHeight x_cells a_0 a_1 a_2 post) : Met l y_RD_clearNewest (zz_w y_RD_clearNewest b_RD_clearNewest 5 none) rm_RD_clearNewest (va_Pc [.ref q_this, .int a_0, .int a_1, .int a_2] (fun U => U.heap.size = sz ∧ va_P (dC, dI) zz_cl [(q_this, .inr (2, [.ref q_cells, .ref q_beginnings, .int x_height, .int x_width, .int x_imageHeight])), (q_cells, .inl (k_cells, 32, .inr (.inl x_cells)))] U.heap ∧ va_K (dC, dI) zz_cl [(k_cells, .long)] U ∧ va_D (fun _ => True) [(q_this, .inr (2, [.ref q_cells, .ref q_beginnings, .int x_height, .int x_width, .int x_imageHeight])), (q_cells, .inl (k_cells, 32, .inr (.inl x_cells)))])) (qz_RD_clearNewest dC dI q_this q_cells q_beginnings k_cells x_height x_width x_imageHeight post (va_A [(q_this, .inr (2, [.ref q_cells, .ref q_beginnings, .int x_height, .int x_width, .int x_imageHeight])), (q_cells, .inl (k_cells, 32, .inr (.inl x_cells)))] sz)) 0 0 (va_A [(q_this, .inr (2, [.ref q_cells, .ref q_beginnings, .int x_height, .int x_width, .int x_imageHeight])), (q_cells, .inl (k_cells, 32, .inr (.inl x_cells)))] sz) := by
  refine Met.ofW (cc := b_RD_clearNewest) (maxL := 5) (ret := none) (by decide) rfl ?_
  intro p e s m args below meth c s₁ B hml hv
  obtain ⟨rfl, hsz, hP, hK, hD0⟩ := hv
  have hx := B.exec
  have hb := B.bytes
  have hr := B.returns
  have hts0 := atoms_spec (ws := (zz_w y_RD_clearNewest b_RD_clearNewest 5 none)) B.pre
  have hts : ∀ w ∈ zz_GW, w.before _ s = true := fun w h => hts0 w (List.mem_cons_of_mem _ h)
  clear hts0
  have hown : s.vm.findClass "StructureRows$Reduction" = some m.cls := findClass_of_methodNamed B.named
  have hlocks := B.notSynchronized
  have C0 : cx_RD_clearNewest p s m _ meth c := ⟨hx, hb, hr, hml, hown, hts, hlocks⟩
  subst hsz
  have hD := hD0.self (sz := s.heap.size)
  generalize hAe : va_A [(q_this, .inr (2, [.ref q_cells, .ref q_beginnings, .int x_height, .int x_width, .int x_imageHeight])), (q_cells, .inl (k_cells, 32, .inr (.inl x_cells)))] s.heap.size = A at hD ⊢
  have hA : ∀ q : Nat, s.heap.size ≤ q → A q := fun q h => by rw [← hAe]; exact Or.inr h
  clear hAe hD0
  have hS : va_S A s.heap s.heap [] := va_S.rf
  have hl := lv_entry ([.ref q_this, .int a_0, .int a_1, .int a_2]) (n := 5) (Nat.le_of_ble_eq_true rfl)
  rw [lg_entry_eq]
  generalize (lg_sl ([.ref q_this, .int a_0, .int a_1, .int a_2]) ++ List.replicate (5 - (lg_sl ([.ref q_this, .int a_0, .int a_1, .int a_2])).length) Slot.unset).toArray = ls at hl ⊢
  replace hl : lv_has ls 5 [(0, .ref q_this), (1, .int a_0), (2, .int a_1), (3, .int a_2)] := hl
  unfold wp_RD_clearNewest at hw
  change W p l e rm_RD_clearNewest s m _ below meth c s.heap [] 0 0 _ _
  refine lv_iconst (v := 0) hx hb d_RD_clearNewest_0 (by decide) ?_
  refine lv_istore (lv' := [(4, .int 0), (0, .ref q_this), (1, .int a_0), (2, .int a_1), (3, .int a_2)]) hx hb d_RD_clearNewest_1 hl (by decide) rfl (fun ls hl => ?_)
  exact k_RD_clearNewest_3 C0 hA hK hw hP hD hS (lv_sub hl [1, 2, 3, 4, 0] rfl)
set_option maxHeartbeats 4000000 in
set_option maxRecDepth 100000 in
theorem go_RD_clearNewest {p : Program} {l : Launch} {e : Env} {R : Room} {s : State} {m : MethodId} {args : Array Value} {below : List Frame} {meth : Method} {c : Code} {H : Heap} {locs : List Loc} {cells slots : Nat} {Q : State → Prop} {cc : ByteArray} {nL : Nat} {Ts : List Cond} {own : String} {index : Nat} {A0 : Nat → Prop} {H0 : Heap} {dC : Nat → ClassId} {dI : Nat → Nat → Nat} {ws wr : va_W} {tys : List (ClassId × FieldType)} {q_this q_cells q_beginnings : Nat} {k_cells : ClassId} {x_height : Int32} {x_width : Int32} {x_imageHeight : Int32} {x_cells : Nat → Int64} {a_0 : Int32} {a_1 : Int32} {a_2 : Int32} {post : (Nat → Int64) → Prop} (S : CallFix p m c cc nL s args Ts own) (cw : CallW R s args own "StructureRows$Reduction" index y_RD_clearNewest b_RD_clearNewest 5 none (zz_w y_RD_clearNewest b_RD_clearNewest 5 none) rm_RD_clearNewest 0 0 3) (hK : va_K (dC, dI) zz_cl tys s) (hP : va_P (dC, dI) zz_cl ws H) (hD : va_D A0 ws) (hS : va_S A0 H0 H locs) (hA : ∀ q, H0.size ≤ q → A0 q) (isC isR kt : List Nat) (h1 : isC.filterMap (fun i => ws[i]?) = [(q_this, .inr (2, [.ref q_cells, .ref q_beginnings, .int x_height, .int x_width, .int x_imageHeight])), (q_cells, .inl (k_cells, 32, .inr (.inl x_cells)))]) (h2 : isC.map (fun i => ws[i]?) = ([(q_this, .inr (2, [.ref q_cells, .ref q_beginnings, .int x_height, .int x_width, .int x_imageHeight])), (q_cells, .inl (k_cells, 32, .inr (.inl x_cells)))] : va_W).map some) (h3 : va_nd isC = true) (h4 : isR.map (fun i => ws[i]?) = wr.map some) (h5 : va_nd isR = true) (h6 : ∀ i ∈ isR, i ∉ isC) (h7 : kt.filterMap (fun i => tys[i]?) = [(k_cells, .long)]) (hw : wp_RD_clearNewest x_height x_width x_imageHeight x_cells a_0 a_1 a_2 post) {pc : Nat} {ls : Array Slot} {rest : List Value} (hsize : ls.size = nL) (hrest : (rest.map fun v => v.category).sum ≤ 8) (hdg : decode cc pc = .ok (.invokevirtual index, 3)) (hf : cells + 0 ≤ R.cells ∧ slots + 0 ≤ R.slots) (kk : ∀ (m0 : Nat → Int64) (H1 : Heap) (locs1 : List Loc), post m0 → va_P (dC, dI) zz_cl (wr ++ [(q_this, .inr (2, [.ref q_cells, .ref q_beginnings, .int x_height, .int x_width, .int x_imageHeight])), (q_cells, .inl (k_cells, 32, .inr (.inl m0)))]) H1 → va_D A0 (wr ++ [(q_this, .inr (2, [.ref q_cells, .ref q_beginnings, .int x_height, .int x_width, .int x_imageHeight])), (q_cells, .inl (k_cells, 32, .inr (.inl m0)))]) → va_S A0 H0 H1 locs1 → W p l e R s m args below meth c H1 locs1 (cells + 0) (slots + 0) Q (F0 m (pc + 3) ls rest)) : W p l e R s m args below meth c H locs cells slots Q (F0 m pc ls (.int a_2 :: .int a_1 :: .int a_0 :: .ref q_this :: rest)) := by
  have hPc := hP.sub (ws' := [(q_this, .inr (2, [.ref q_cells, .ref q_beginnings, .int x_height, .int x_width, .int x_imageHeight])), (q_cells, .inl (k_cells, 32, .inr (.inl x_cells)))]) isC h1
  have hDc := hD.sub (ws' := [(q_this, .inr (2, [.ref q_cells, .ref q_beginnings, .int x_height, .int x_width, .int x_imageHeight])), (q_cells, .inl (k_cells, 32, .inr (.inl x_cells)))]) isC h3 h2
  have hKc := hK.sub (tys' := [(k_cells, .long)]) kt h7
  have hFc := va_free (wc := [(q_this, .inr (2, [.ref q_cells, .ref q_beginnings, .int x_height, .int x_width, .int x_imageHeight])), (q_cells, .inl (k_cells, 32, .inr (.inl x_cells)))]) hD hS hA isC h2
  refine va_callv (va_runV (As := [.int a_0, .int a_1, .int a_2]) (rest := rest) S (c_RD_clearNewest l dC dI q_this q_cells q_beginnings k_cells H.size x_height x_width x_imageHeight x_cells a_0 a_1 a_2 post hw) cw ⟨zz_blind, va_recv hKc hPc (ci := 2) (q0 := 0) rfl rfl, fun U hU hW => ⟨rfl, by rw [hU], by rw [hU]; exact hPc, va_K.moved hW.alike hKc, hDc.weaken (fun _ _ _ _ => trivial)⟩⟩ rfl rfl hsize rfl (lv_room hrest) hdg hf) hS (fun q _ h => hFc q h) hFc (fun u t H1 locs ht hvm hw hB hz1 hk1 hS => ?_)
  obtain ⟨hP1, hK1, hD1⟩ := hB
  rw [ht] at hP1
  obtain ⟨hP2, hD2⟩ := va_join (wr := wr) (w1 := [(q_this, .inr (2, [.ref q_cells, .ref q_beginnings, .int x_height, .int x_width, .int x_imageHeight])), (q_cells, .inl (k_cells, 32, .inr (.inl u)))]) hP hD isC isR h2 h4 h5 h6 hk1 hFc hP1 hD1
  exact kk u H1 locs hw hP2 hD2 hS
abbrev rm_RD_moveAhead : Room := { frames := 2, cells := 0, slots := 0, locals := 49 }
abbrev qz_RD_moveAhead (dC : Nat → ClassId) (dI : Nat → Nat → Nat) (q_this q_cells q_beginnings : Nat) (k_cells k_beginnings : ClassId) (x_height : Int32) (x_width : Int32) (x_imageHeight : Int32) (post : (Nat → Int64) → (Nat → Int32) → Prop) (A : Nat → Prop) : Array Value → State → Outcome → State → Prop := va_Qv (fun (u : (Nat → Int64) × (Nat → Int32)) => post u.1 u.2) (fun (u : (Nat → Int64) × (Nat → Int32)) (t : State) => va_P (dC, dI) zz_cl [(q_this, .inr (2, [.ref q_cells, .ref q_beginnings, .int x_height, .int x_width, .int x_imageHeight])), (q_cells, .inl (k_cells, 32, .inr (.inl u.1))), (q_beginnings, .inl (k_beginnings, 4, .inl u.2))] t.heap ∧ va_K (dC, dI) zz_cl [(k_cells, .long), (k_beginnings, .int)] t ∧ va_D A [(q_this, .inr (2, [.ref q_cells, .ref q_beginnings, .int x_height, .int x_width, .int x_imageHeight])), (q_cells, .inl (k_cells, 32, .inr (.inl u.1))), (q_beginnings, .inl (k_beginnings, 4, .inl u.2))]) A
def cx_RD_moveAhead (p : Program) (s : State) (m : MethodId) (args : Array Value) (meth : Method) (c : Code) : Prop := p.tables.exec = Jvm.exec ∧ c.code = b_RD_moveAhead ∧ meth.sig.returnType = none ∧ c.maxLocals = 5 ∧ s.vm.findClass "StructureRows$Reduction" = some m.cls ∧ (∀ w ∈ zz_GW, w.before args s = true) ∧ meth.locks = false
def wp_RD_moveAhead_3b (x_height : Int32) (x_width : Int32) (x_imageHeight : Int32) (u_2 : Int32) (u_3 : Int32) (post : (Nat → Int64) → (Nat → Int32) → Prop)  (P : (Nat → Int64) → (Nat → Int32) → Int32 → Prop) (x_cells : Nat → Int64) (x_beginnings : Nat → Int32) (u_4 : Int32) : Prop := (u_4 ≤ u_2 → (vp_in u_2 4 ∧ ∀ w_3 : Nat → Int32, w_3 = upd x_beginnings u_2.toNatClampNeg u_3 → (wp_RD_cell x_height x_width x_imageHeight x_cells u_2 u_3 (fun (r_4 : Int64) => ((0 ≤ (lg_cmp r_4 0) → (post x_cells w_3)) ∧ (¬ 0 ≤ (lg_cmp r_4 0) → (wp_RD_turnSigns x_height x_width x_imageHeight x_cells u_2 (fun (m_6 : Nat → Int64) => (post m_6 w_3))))))))) ∧ (¬ u_4 ≤ u_2 → (wp_RD_swap x_height x_width x_imageHeight x_cells u_4 (u_4 - 1) (fun (m_7 : Nat → Int64) => (vp_in (u_4 - 1) 4 ∧ (vp_in u_4 4 ∧ ∀ w_10 : Nat → Int32, w_10 = upd x_beginnings u_4.toNatClampNeg (x_beginnings (u_4 - 1).toNatClampNeg) → (∀ v_11 : Int32, v_11 = u_4 + (-1) → (P m_7 w_10 v_11)))))))
def wp_RD_moveAhead_3 (x_height : Int32) (x_width : Int32) (x_imageHeight : Int32) (u_2 : Int32) (u_3 : Int32) (post : (Nat → Int64) → (Nat → Int32) → Prop)  (x_cells : Nat → Int64) (x_beginnings : Nat → Int32) (u_4 : Int32) : Prop := ∀ P : (Nat → Int64) → (Nat → Int32) → Int32 → Prop, (∀ (x_cells : Nat → Int64) (x_beginnings : Nat → Int32) (u_4 : Int32), wp_RD_moveAhead_3b x_height x_width x_imageHeight u_2 u_3 post P x_cells x_beginnings u_4 → P x_cells x_beginnings u_4) → P x_cells x_beginnings u_4
set_option maxHeartbeats 4000000 in
set_option maxRecDepth 100000 in
theorem k_RD_moveAhead_3 {p : Program} {l : Launch} {e : Env} {s : State} {m : MethodId} {args : Array Value} {below : List Frame} {meth : Method} {c : Code} {dC : Nat → ClassId} {dI : Nat → Nat → Nat} {A : Nat → Prop} {q_this q_cells q_beginnings : Nat} {k_cells k_beginnings : ClassId} {x_height : Int32} {x_width : Int32} {x_imageHeight : Int32} {u_2 : Int32} {u_3 : Int32} {post : (Nat → Int64) → (Nat → Int32) → Prop}  (C0 : cx_RD_moveAhead p s m args meth c) (hA : ∀ q : Nat, s.heap.size ≤ q → A q) (hK : va_K (dC, dI) zz_cl [(k_cells, .long), (k_beginnings, .int)] s) {x_cells : Nat → Int64} {x_beginnings : Nat → Int32} {u_4 : Int32} (hw : wp_RD_moveAhead_3 x_height x_width x_imageHeight u_2 u_3 post x_cells x_beginnings u_4) {H : Heap} {locs : List Loc} {ls : Array Slot} (hP : va_P (dC, dI) zz_cl [(q_this, .inr (2, [.ref q_cells, .ref q_beginnings, .int x_height, .int x_width, .int x_imageHeight])), (q_cells, .inl (k_cells, 32, .inr (.inl x_cells))), (q_beginnings, .inl (k_beginnings, 4, .inl x_beginnings))] H) (hD : va_D A [(q_this, .inr (2, [.ref q_cells, .ref q_beginnings, .int x_height, .int x_width, .int x_imageHeight])), (q_cells, .inl (k_cells, 32, .inr (.inl x_cells))), (q_beginnings, .inl (k_beginnings, 4, .inl x_beginnings))]) (hS : va_S A s.heap H locs) (hl : lv_has ls 5 [(0, .ref q_this), (2, .int u_2), (3, .int u_3), (4, .int u_4)]) : W p l e rm_RD_moveAhead s m args below meth c H locs 0 0 (MQ below (qz_RD_moveAhead dC dI q_this q_cells q_beginnings k_cells k_beginnings x_height x_width x_imageHeight post A) args s 0 0 A) (F0 m 3 ls []) := by
  have C1 := C0
  obtain ⟨hx, hb, hr, hml, hown, hts, hlocks⟩ := C1
  refine hw (fun (x_cells : Nat → Int64) (x_beginnings : Nat → Int32) (u_4 : Int32) => ∀ (H : Heap) (locs : List Loc) (ls : Array Slot), va_P (dC, dI) zz_cl [(q_this, .inr (2, [.ref q_cells, .ref q_beginnings, .int x_height, .int x_width, .int x_imageHeight])), (q_cells, .inl (k_cells, 32, .inr (.inl x_cells))), (q_beginnings, .inl (k_beginnings, 4, .inl x_beginnings))] H → va_D A [(q_this, .inr (2, [.ref q_cells, .ref q_beginnings, .int x_height, .int x_width, .int x_imageHeight])), (q_cells, .inl (k_cells, 32, .inr (.inl x_cells))), (q_beginnings, .inl (k_beginnings, 4, .inl x_beginnings))] → va_S A s.heap H locs → lv_has ls 5 [(0, .ref q_this), (2, .int u_2), (3, .int u_3), (4, .int u_4)] → W p l e rm_RD_moveAhead s m args below meth c H locs 0 0 (MQ below (qz_RD_moveAhead dC dI q_this q_cells q_beginnings k_cells k_beginnings x_height x_width x_imageHeight post A) args s 0 0 A) (F0 m 3 ls [])) ?_ H locs ls hP hD hS hl
  clear hw hP hD hS hl H locs ls
  intro x_cells x_beginnings u_4 hw H locs ls hP hD hS hl
  unfold wp_RD_moveAhead_3b at hw
  refine lv_iload hx hb d_RD_moveAhead_3 (lv_at hl 3 rfl) ?_
  refine lv_iload_n hx hb d_RD_moveAhead_5 rfl (lv_at hl 1 rfl) ?_
  refine lv_icmp_le (tgt := 41) hx hb d_RD_moveAhead_6 (by decide) (fun h_1 => ?_) (fun h_1 => ?_)
  · replace hw := hw.1 h_1
    refine lv_aload_n hx hb d_RD_moveAhead_41 rfl (lv_at hl 0 rfl) ?_
    refine va_get (D := (dC, dI)) (ci := 2) (v := .ref q_beginnings) (C := "StructureRows$Reduction") (T := T_RD) (N := 5) hx hb hts in_RD hown hK hP 0 rfl rfl 1 (by decide) (hts _ tw_59) (fun _ h9 => h9) rfl d_RD_moveAhead_42 ?_
    refine lv_iload_n hx hb d_RD_moveAhead_45 rfl (lv_at hl 1 rfl) ?_
    refine lv_iload_n hx hb d_RD_moveAhead_46 rfl (lv_at hl 2 rfl) ?_
    obtain ⟨h_2, hw⟩ := hw
    obtain ⟨w_3, ew_3⟩ : ∃ y : Nat → Int32, y = upd x_beginnings u_2.toNatClampNeg u_3 := ⟨_, rfl⟩
    replace hw := hw w_3 ew_3
    refine va_iast hx hb hK hP hD hS 2 1 rfl rfl h_2 d_RD_moveAhead_47 (fun H locs hP hD hS => ?_)
    rw [← ew_3] at hP hD
    replace hP : va_P (dC, dI) zz_cl [(q_this, .inr (2, [.ref q_cells, .ref q_beginnings, .int x_height, .int x_width, .int x_imageHeight])), (q_cells, .inl (k_cells, 32, .inr (.inl x_cells))), (q_beginnings, .inl (k_beginnings, 4, .inl w_3))] H := hP
    replace hD : va_D A [(q_this, .inr (2, [.ref q_cells, .ref q_beginnings, .int x_height, .int x_width, .int x_imageHeight])), (q_cells, .inl (k_cells, 32, .inr (.inl x_cells))), (q_beginnings, .inl (k_beginnings, 4, .inl w_3))] := hD
    refine lv_aload_n hx hb d_RD_moveAhead_48 rfl (lv_at hl 0 rfl) ?_
    refine lv_iload_n hx hb d_RD_moveAhead_49 rfl (lv_at hl 1 rfl) ?_
    refine lv_iload_n hx hb d_RD_moveAhead_50 rfl (lv_at hl 2 rfl) ?_
    refine go_RD_cell (wr := [(q_beginnings, .inl (k_beginnings, 4, .inl w_3))]) ⟨hx, hb, hml, hown, hts⟩ (zz_cwV 2 hts tw_164 tw_161 tw_163 tw_2 tw_32 ⟨by decide, by decide, by decide +kernel⟩ ⟨Nat.le_of_ble_eq_true rfl, Nat.le_of_ble_eq_true rfl⟩) hK hP hD hS hA [0, 1] [2] [0] rfl rfl (by decide) rfl (by decide) (by decide) rfl hw hl.1 (Nat.le_of_ble_eq_true rfl) d_RD_moveAhead_51 ⟨Nat.le_of_ble_eq_true rfl, Nat.le_of_ble_eq_true rfl⟩ (fun r_4 H locs hw hP hD hS => ?_)
    replace hP : va_P (dC, dI) zz_cl [(q_beginnings, .inl (k_beginnings, 4, .inl w_3)), (q_this, .inr (2, [.ref q_cells, .ref q_beginnings, .int x_height, .int x_width, .int x_imageHeight])), (q_cells, .inl (k_cells, 32, .inr (.inl x_cells)))] H := hP
    replace hD : va_D A [(q_beginnings, .inl (k_beginnings, 4, .inl w_3)), (q_this, .inr (2, [.ref q_cells, .ref q_beginnings, .int x_height, .int x_width, .int x_imageHeight])), (q_cells, .inl (k_cells, 32, .inr (.inl x_cells)))] := hD
    refine lv_lconst (v := 0) hx hb d_RD_moveAhead_54 (by decide) ?_
    refine W.lcmp hx hb d_RD_moveAhead_55 ?_
    refine lv_if_ge (tgt := 64) hx hb d_RD_moveAhead_56 (by decide) (fun h_5 => ?_) (fun h_5 => ?_)
    · replace hw := hw.1 h_5
      exact W.vret hx hb hr (fun t ht hW => ⟨⟨(x_cells, w_3), rfl, hw, by rw [ht]; exact hP.sub [1, 2, 0] rfl, va_K.moved hW.alike hK, hD.sub [1, 2, 0] (by decide) rfl⟩, hS.F ht⟩) hS.2.2 d_RD_moveAhead_64
    · replace hw := hw.2 h_5
      refine lv_aload_n hx hb d_RD_moveAhead_59 rfl (lv_at hl 0 rfl) ?_
      refine lv_iload_n hx hb d_RD_moveAhead_60 rfl (lv_at hl 1 rfl) ?_
      refine go_RD_turnSigns (wr := [(q_beginnings, .inl (k_beginnings, 4, .inl w_3))]) ⟨hx, hb, hml, hown, hts⟩ (zz_cwV 1 hts tw_180 tw_177 tw_179 tw_6 tw_32 ⟨by decide, by decide, by decide +kernel⟩ ⟨Nat.le_of_ble_eq_true rfl, Nat.le_of_ble_eq_true rfl⟩) hK hP hD hS hA [1, 2] [0] [0] rfl rfl (by decide) rfl (by decide) (by decide) rfl hw hl.1 (Nat.le_of_ble_eq_true rfl) d_RD_moveAhead_61 ⟨Nat.le_of_ble_eq_true rfl, Nat.le_of_ble_eq_true rfl⟩ (fun m_6 H locs hw hP hD hS => ?_)
      replace hP : va_P (dC, dI) zz_cl [(q_beginnings, .inl (k_beginnings, 4, .inl w_3)), (q_this, .inr (2, [.ref q_cells, .ref q_beginnings, .int x_height, .int x_width, .int x_imageHeight])), (q_cells, .inl (k_cells, 32, .inr (.inl m_6)))] H := hP
      replace hD : va_D A [(q_beginnings, .inl (k_beginnings, 4, .inl w_3)), (q_this, .inr (2, [.ref q_cells, .ref q_beginnings, .int x_height, .int x_width, .int x_imageHeight])), (q_cells, .inl (k_cells, 32, .inr (.inl m_6)))] := hD
      exact W.vret hx hb hr (fun t ht hW => ⟨⟨(m_6, w_3), rfl, hw, by rw [ht]; exact hP.sub [1, 2, 0] rfl, va_K.moved hW.alike hK, hD.sub [1, 2, 0] (by decide) rfl⟩, hS.F ht⟩) hS.2.2 d_RD_moveAhead_64
  · replace hw := hw.2 h_1
    refine lv_aload_n hx hb d_RD_moveAhead_9 rfl (lv_at hl 0 rfl) ?_
    refine lv_iload hx hb d_RD_moveAhead_10 (lv_at hl 3 rfl) ?_
    refine lv_iload hx hb d_RD_moveAhead_12 (lv_at hl 3 rfl) ?_
    refine lv_iconst (v := 1) hx hb d_RD_moveAhead_14 (by decide) ?_
    refine lv_isub hx hb d_RD_moveAhead_15 ?_
    refine go_RD_swap (wr := [(q_beginnings, .inl (k_beginnings, 4, .inl x_beginnings))]) ⟨hx, hb, hml, hown, hts⟩ (zz_cwV 2 hts tw_176 tw_173 tw_175 tw_5 tw_32 ⟨by decide, by decide, by decide +kernel⟩ ⟨Nat.le_of_ble_eq_true rfl, Nat.le_of_ble_eq_true rfl⟩) hK hP hD hS hA [0, 1] [2] [0] rfl rfl (by decide) rfl (by decide) (by decide) rfl hw hl.1 (Nat.le_of_ble_eq_true rfl) d_RD_moveAhead_16 ⟨Nat.le_of_ble_eq_true rfl, Nat.le_of_ble_eq_true rfl⟩ (fun m_7 H locs hw hP hD hS => ?_)
    replace hP : va_P (dC, dI) zz_cl [(q_beginnings, .inl (k_beginnings, 4, .inl x_beginnings)), (q_this, .inr (2, [.ref q_cells, .ref q_beginnings, .int x_height, .int x_width, .int x_imageHeight])), (q_cells, .inl (k_cells, 32, .inr (.inl m_7)))] H := hP
    replace hD : va_D A [(q_beginnings, .inl (k_beginnings, 4, .inl x_beginnings)), (q_this, .inr (2, [.ref q_cells, .ref q_beginnings, .int x_height, .int x_width, .int x_imageHeight])), (q_cells, .inl (k_cells, 32, .inr (.inl m_7)))] := hD
    refine lv_aload_n hx hb d_RD_moveAhead_19 rfl (lv_at hl 0 rfl) ?_
    refine va_get (D := (dC, dI)) (ci := 2) (v := .ref q_beginnings) (C := "StructureRows$Reduction") (T := T_RD) (N := 5) hx hb hts in_RD hown hK hP 1 rfl rfl 1 (by decide) (hts _ tw_59) (fun _ h9 => h9) rfl d_RD_moveAhead_20 ?_
    refine lv_iload hx hb d_RD_moveAhead_23 (lv_at hl 3 rfl) ?_
    refine lv_aload_n hx hb d_RD_moveAhead_25 rfl (lv_at hl 0 rfl) ?_
    refine va_get (D := (dC, dI)) (ci := 2) (v := .ref q_beginnings) (C := "StructureRows$Reduction") (T := T_RD) (N := 5) hx hb hts in_RD hown hK hP 1 rfl rfl 1 (by decide) (hts _ tw_59) (fun _ h9 => h9) rfl d_RD_moveAhead_26 ?_
    refine lv_iload hx hb d_RD_moveAhead_29 (lv_at hl 3 rfl) ?_
    refine lv_iconst (v := 1) hx hb d_RD_moveAhead_31 (by decide) ?_
    refine lv_isub hx hb d_RD_moveAhead_32 ?_
    obtain ⟨h_8, hw⟩ := hw
    refine va_iald hx hb hK hP 0 1 rfl rfl h_8 d_RD_moveAhead_33 ?_
    obtain ⟨h_9, hw⟩ := hw
    obtain ⟨w_10, ew_10⟩ : ∃ y : Nat → Int32, y = upd x_beginnings u_4.toNatClampNeg (x_beginnings (u_4 - 1).toNatClampNeg) := ⟨_, rfl⟩
    replace hw := hw w_10 ew_10
    refine va_iast hx hb hK hP hD hS 0 1 rfl rfl h_9 d_RD_moveAhead_34 (fun H locs hP hD hS => ?_)
    rw [← ew_10] at hP hD
    replace hP : va_P (dC, dI) zz_cl [(q_beginnings, .inl (k_beginnings, 4, .inl w_10)), (q_this, .inr (2, [.ref q_cells, .ref q_beginnings, .int x_height, .int x_width, .int x_imageHeight])), (q_cells, .inl (k_cells, 32, .inr (.inl m_7)))] H := hP
    replace hD : va_D A [(q_beginnings, .inl (k_beginnings, 4, .inl w_10)), (q_this, .inr (2, [.ref q_cells, .ref q_beginnings, .int x_height, .int x_width, .int x_imageHeight])), (q_cells, .inl (k_cells, 32, .inr (.inl m_7)))] := hD
    obtain ⟨v_11, ev_11⟩ : ∃ y : Int32, y = u_4 + (-1) := ⟨_, rfl⟩
    replace hw := hw v_11 ev_11
    refine lv_iinc (v := v_11) (lv' := [(4, .int v_11), (0, .ref q_this), (2, .int u_2), (3, .int u_3)]) hx hb d_RD_moveAhead_35 hl (k := 3) rfl (by rw [ev_11]; rfl) (by decide) rfl (fun ls hl => ?_)
    refine lv_goto (tgt := 3) hx hb d_RD_moveAhead_38 (by decide) ?_
    exact hw H locs ls (hP.sub [1, 2, 0] rfl) (hD.sub [1, 2, 0] (by decide) rfl) hS (lv_sub hl [1, 2, 3, 0] rfl)
def wp_RD_moveAhead (x_height : Int32) (x_width : Int32) (x_imageHeight : Int32) (x_cells : Nat → Int64) (x_beginnings : Nat → Int32) (a_0 : Int32) (a_1 : Int32) (a_2 : Int32) (post : (Nat → Int64) → (Nat → Int32) → Prop) : Prop := wp_RD_moveAhead_3 x_height x_width x_imageHeight a_1 a_2 post x_cells x_beginnings a_0
set_option maxHeartbeats 4000000 in
set_option maxRecDepth 100000 in
theorem c_RD_moveAhead (l : Launch) (dC : Nat → ClassId) (dI : Nat → Nat → Nat) (q_this q_cells q_beginnings : Nat) (k_cells k_beginnings : ClassId) (sz : Nat) (x_height : Int32) (x_width : Int32) (x_imageHeight : Int32) (x_cells : Nat → Int64) (x_beginnings : Nat → Int32) (a_0 : Int32) (a_1 : Int32) (a_2 : Int32) (post : (Nat → Int64) → (Nat → Int32) → Prop) (hw : wp_RD_moveAhead x_height x_width x_imageHeight x_cells x_beginnings a_0 a_1 a_2 post) : Met l y_RD_moveAhead (zz_w y_RD_moveAhead b_RD_moveAhead 5 none) rm_RD_moveAhead (va_Pc [.ref q_this, .int a_0, .int a_1, .int a_2] (fun U => U.heap.size = sz ∧ va_P (dC, dI) zz_cl [(q_this, .inr (2, [.ref q_cells, .ref q_beginnings, .int x_height, .int x_width, .int x_imageHeight])), (q_cells, .inl (k_cells, 32, .inr (.inl x_cells))), (q_beginnings, .inl (k_beginnings, 4, .inl x_beginnings))] U.heap ∧ va_K (dC, dI) zz_cl [(k_cells, .long), (k_beginnings, .int)] U ∧ va_D (fun _ => True) [(q_this, .inr (2, [.ref q_cells, .ref q_beginnings, .int x_height, .int x_width, .int x_imageHeight])), (q_cells, .inl (k_cells, 32, .inr (.inl x_cells))), (q_beginnings, .inl (k_beginnings, 4, .inl x_beginnings))])) (qz_RD_moveAhead dC dI q_this q_cells q_beginnings k_cells k_beginnings x_height x_width x_imageHeight post (va_A [(q_this, .inr (2, [.ref q_cells, .ref q_beginnings, .int x_height, .int x_width, .int x_imageHeight])), (q_cells, .inl (k_cells, 32, .inr (.inl x_cells))), (q_beginnings, .inl (k_beginnings, 4, .inl x_beginnings))] sz)) 0 0 (va_A [(q_this, .inr (2, [.ref q_cells, .ref q_beginnings, .int x_height, .int x_width, .int x_imageHeight])), (q_cells, .inl (k_cells, 32, .inr (.inl x_cells))), (q_beginnings, .inl (k_beginnings, 4, .inl x_beginnings))] sz) := by
  refine Met.ofW (cc := b_RD_moveAhead) (maxL := 5) (ret := none) (by decide) rfl ?_
  intro p e s m args below meth c s₁ B hml hv
  obtain ⟨rfl, hsz, hP, hK, hD0⟩ := hv
  have hx := B.exec
  have hb := B.bytes
  have hr := B.returns
  have hts0 := atoms_spec (ws := (zz_w y_RD_moveAhead b_RD_moveAhead 5 none)) B.pre
  have hts : ∀ w ∈ zz_GW, w.before _ s = true := fun w h => hts0 w (List.mem_cons_of_mem _ h)
  clear hts0
  have hown : s.vm.findClass "StructureRows$Reduction" = some m.cls := findClass_of_methodNamed B.named
  have hlocks := B.notSynchronized
  have C0 : cx_RD_moveAhead p s m _ meth c := ⟨hx, hb, hr, hml, hown, hts, hlocks⟩
  subst hsz
  have hD := hD0.self (sz := s.heap.size)
  generalize hAe : va_A [(q_this, .inr (2, [.ref q_cells, .ref q_beginnings, .int x_height, .int x_width, .int x_imageHeight])), (q_cells, .inl (k_cells, 32, .inr (.inl x_cells))), (q_beginnings, .inl (k_beginnings, 4, .inl x_beginnings))] s.heap.size = A at hD ⊢
  have hA : ∀ q : Nat, s.heap.size ≤ q → A q := fun q h => by rw [← hAe]; exact Or.inr h
  clear hAe hD0
  have hS : va_S A s.heap s.heap [] := va_S.rf
  have hl := lv_entry ([.ref q_this, .int a_0, .int a_1, .int a_2]) (n := 5) (Nat.le_of_ble_eq_true rfl)
  rw [lg_entry_eq]
  generalize (lg_sl ([.ref q_this, .int a_0, .int a_1, .int a_2]) ++ List.replicate (5 - (lg_sl ([.ref q_this, .int a_0, .int a_1, .int a_2])).length) Slot.unset).toArray = ls at hl ⊢
  replace hl : lv_has ls 5 [(0, .ref q_this), (1, .int a_0), (2, .int a_1), (3, .int a_2)] := hl
  unfold wp_RD_moveAhead at hw
  change W p l e rm_RD_moveAhead s m _ below meth c s.heap [] 0 0 _ _
  refine lv_iload_n hx hb d_RD_moveAhead_0 rfl (lv_at hl 1 rfl) ?_
  refine lv_istore (lv' := [(4, .int a_0), (0, .ref q_this), (1, .int a_0), (2, .int a_1), (3, .int a_2)]) hx hb d_RD_moveAhead_1 hl (by decide) rfl (fun ls hl => ?_)
  exact k_RD_moveAhead_3 C0 hA hK hw hP hD hS (lv_sub hl [1, 3, 4, 0] rfl)
set_option maxHeartbeats 4000000 in
set_option maxRecDepth 100000 in
theorem go_RD_moveAhead {p : Program} {l : Launch} {e : Env} {R : Room} {s : State} {m : MethodId} {args : Array Value} {below : List Frame} {meth : Method} {c : Code} {H : Heap} {locs : List Loc} {cells slots : Nat} {Q : State → Prop} {cc : ByteArray} {nL : Nat} {Ts : List Cond} {own : String} {index : Nat} {A0 : Nat → Prop} {H0 : Heap} {dC : Nat → ClassId} {dI : Nat → Nat → Nat} {ws wr : va_W} {tys : List (ClassId × FieldType)} {q_this q_cells q_beginnings : Nat} {k_cells k_beginnings : ClassId} {x_height : Int32} {x_width : Int32} {x_imageHeight : Int32} {x_cells : Nat → Int64} {x_beginnings : Nat → Int32} {a_0 : Int32} {a_1 : Int32} {a_2 : Int32} {post : (Nat → Int64) → (Nat → Int32) → Prop} (S : CallFix p m c cc nL s args Ts own) (cw : CallW R s args own "StructureRows$Reduction" index y_RD_moveAhead b_RD_moveAhead 5 none (zz_w y_RD_moveAhead b_RD_moveAhead 5 none) rm_RD_moveAhead 0 0 3) (hK : va_K (dC, dI) zz_cl tys s) (hP : va_P (dC, dI) zz_cl ws H) (hD : va_D A0 ws) (hS : va_S A0 H0 H locs) (hA : ∀ q, H0.size ≤ q → A0 q) (isC isR kt : List Nat) (h1 : isC.filterMap (fun i => ws[i]?) = [(q_this, .inr (2, [.ref q_cells, .ref q_beginnings, .int x_height, .int x_width, .int x_imageHeight])), (q_cells, .inl (k_cells, 32, .inr (.inl x_cells))), (q_beginnings, .inl (k_beginnings, 4, .inl x_beginnings))]) (h2 : isC.map (fun i => ws[i]?) = ([(q_this, .inr (2, [.ref q_cells, .ref q_beginnings, .int x_height, .int x_width, .int x_imageHeight])), (q_cells, .inl (k_cells, 32, .inr (.inl x_cells))), (q_beginnings, .inl (k_beginnings, 4, .inl x_beginnings))] : va_W).map some) (h3 : va_nd isC = true) (h4 : isR.map (fun i => ws[i]?) = wr.map some) (h5 : va_nd isR = true) (h6 : ∀ i ∈ isR, i ∉ isC) (h7 : kt.filterMap (fun i => tys[i]?) = [(k_cells, .long), (k_beginnings, .int)]) (hw : wp_RD_moveAhead x_height x_width x_imageHeight x_cells x_beginnings a_0 a_1 a_2 post) {pc : Nat} {ls : Array Slot} {rest : List Value} (hsize : ls.size = nL) (hrest : (rest.map fun v => v.category).sum ≤ 8) (hdg : decode cc pc = .ok (.invokevirtual index, 3)) (hf : cells + 0 ≤ R.cells ∧ slots + 0 ≤ R.slots) (kk : ∀ (m0 : Nat → Int64) (m1 : Nat → Int32) (H1 : Heap) (locs1 : List Loc), post m0 m1 → va_P (dC, dI) zz_cl (wr ++ [(q_this, .inr (2, [.ref q_cells, .ref q_beginnings, .int x_height, .int x_width, .int x_imageHeight])), (q_cells, .inl (k_cells, 32, .inr (.inl m0))), (q_beginnings, .inl (k_beginnings, 4, .inl m1))]) H1 → va_D A0 (wr ++ [(q_this, .inr (2, [.ref q_cells, .ref q_beginnings, .int x_height, .int x_width, .int x_imageHeight])), (q_cells, .inl (k_cells, 32, .inr (.inl m0))), (q_beginnings, .inl (k_beginnings, 4, .inl m1))]) → va_S A0 H0 H1 locs1 → W p l e R s m args below meth c H1 locs1 (cells + 0) (slots + 0) Q (F0 m (pc + 3) ls rest)) : W p l e R s m args below meth c H locs cells slots Q (F0 m pc ls (.int a_2 :: .int a_1 :: .int a_0 :: .ref q_this :: rest)) := by
  have hPc := hP.sub (ws' := [(q_this, .inr (2, [.ref q_cells, .ref q_beginnings, .int x_height, .int x_width, .int x_imageHeight])), (q_cells, .inl (k_cells, 32, .inr (.inl x_cells))), (q_beginnings, .inl (k_beginnings, 4, .inl x_beginnings))]) isC h1
  have hDc := hD.sub (ws' := [(q_this, .inr (2, [.ref q_cells, .ref q_beginnings, .int x_height, .int x_width, .int x_imageHeight])), (q_cells, .inl (k_cells, 32, .inr (.inl x_cells))), (q_beginnings, .inl (k_beginnings, 4, .inl x_beginnings))]) isC h3 h2
  have hKc := hK.sub (tys' := [(k_cells, .long), (k_beginnings, .int)]) kt h7
  have hFc := va_free (wc := [(q_this, .inr (2, [.ref q_cells, .ref q_beginnings, .int x_height, .int x_width, .int x_imageHeight])), (q_cells, .inl (k_cells, 32, .inr (.inl x_cells))), (q_beginnings, .inl (k_beginnings, 4, .inl x_beginnings))]) hD hS hA isC h2
  refine va_callv (va_runV (As := [.int a_0, .int a_1, .int a_2]) (rest := rest) S (c_RD_moveAhead l dC dI q_this q_cells q_beginnings k_cells k_beginnings H.size x_height x_width x_imageHeight x_cells x_beginnings a_0 a_1 a_2 post hw) cw ⟨zz_blind, va_recv hKc hPc (ci := 2) (q0 := 0) rfl rfl, fun U hU hW => ⟨rfl, by rw [hU], by rw [hU]; exact hPc, va_K.moved hW.alike hKc, hDc.weaken (fun _ _ _ _ => trivial)⟩⟩ rfl rfl hsize rfl (lv_room hrest) hdg hf) hS (fun q _ h => hFc q h) hFc (fun u t H1 locs ht hvm hw hB hz1 hk1 hS => ?_)
  obtain ⟨hP1, hK1, hD1⟩ := hB
  rw [ht] at hP1
  obtain ⟨hP2, hD2⟩ := va_join (wr := wr) (w1 := [(q_this, .inr (2, [.ref q_cells, .ref q_beginnings, .int x_height, .int x_width, .int x_imageHeight])), (q_cells, .inl (k_cells, 32, .inr (.inl u.1))), (q_beginnings, .inl (k_beginnings, 4, .inl u.2))]) hP hD isC isR h2 h4 h5 h6 hk1 hFc hP1 hD1
  exact kk u.1 u.2 H1 locs hw hP2 hD2 hS
abbrev rm_MA_floorDiv : Room := { frames := 0, cells := 0, slots := 0, locals := 0 }
abbrev qz_MA_floorDiv (dC : Nat → ClassId) (dI : Nat → Nat → Nat)  (post : Int64 → Prop) (A : Nat → Prop) : Array Value → State → Outcome → State → Prop := va_Ql (fun (r : Int64) (_ : Unit) => post r) (fun (u : Unit) (t : State) => va_P (dC, dI) zz_cl [] t.heap ∧ va_K (dC, dI) zz_cl [] t ∧ va_D A []) A
def cx_MA_floorDiv (p : Program) (s : State) (m : MethodId) (args : Array Value) (meth : Method) (c : Code) : Prop := p.tables.exec = Jvm.exec ∧ c.code = b_MA_floorDiv ∧ meth.sig.returnType = (some .long) ∧ c.maxLocals = 6 ∧ s.vm.findClass "java/lang/Math" = some m.cls ∧ (∀ w ∈ zz_GW, w.before args s = true) ∧ meth.locks = false
def wp_MA_floorDiv  (a_0 : Int64) (a_1 : Int64) (post : Int64 → Prop) : Prop := ¬ a_1 = 0 ∧ (∀ v_2 : Int64, v_2 = a_0 / a_1 → ((0 ≤ (lg_cmp (a_0 ^^^ a_1) 0) → (post v_2)) ∧ (¬ 0 ≤ (lg_cmp (a_0 ^^^ a_1) 0) → (((lg_cmp (v_2 * a_1) a_0) = 0 → (post v_2)) ∧ (¬ (lg_cmp (v_2 * a_1) a_0) = 0 → (post (v_2 - 1)))))))
set_option maxHeartbeats 4000000 in
set_option maxRecDepth 100000 in
theorem c_MA_floorDiv (l : Launch) (dC : Nat → ClassId) (dI : Nat → Nat → Nat) (sz : Nat)  (a_0 : Int64) (a_1 : Int64) (post : Int64 → Prop) (hw : wp_MA_floorDiv a_0 a_1 post) : Met l y_MA_floorDiv (zz_w y_MA_floorDiv b_MA_floorDiv 6 (some .long)) rm_MA_floorDiv (va_Pc [.long a_0, .long a_1] (fun U => U.heap.size = sz ∧ va_P (dC, dI) zz_cl [] U.heap ∧ va_K (dC, dI) zz_cl [] U ∧ va_D (fun _ => True) [])) (qz_MA_floorDiv dC dI post (va_A [] sz)) 0 0 (va_A [] sz) := by
  refine va_MetF (cc := b_MA_floorDiv) (maxL := 6) (ret := (some .long)) (by decide +kernel) rfl ?_
  intro p e s m args below meth c s₁ B hml hv
  obtain ⟨rfl, hsz, hP, hK, hD0⟩ := hv
  have hx := B.exec
  have hb := B.bytes
  have hr := B.returns
  have hts0 := atoms_spec (ws := (zz_w y_MA_floorDiv b_MA_floorDiv 6 (some .long))) B.pre
  have hts : ∀ w ∈ zz_GW, w.before _ s = true := fun w h => hts0 w (List.mem_cons_of_mem _ h)
  clear hts0
  have hown : s.vm.findClass "java/lang/Math" = some m.cls := findClass_of_methodNamed B.named
  have hlocks := B.notSynchronized
  have C0 : cx_MA_floorDiv p s m _ meth c := ⟨hx, hb, hr, hml, hown, hts, hlocks⟩
  subst hsz
  have hD := hD0.self (sz := s.heap.size)
  generalize hAe : va_A [] s.heap.size = A at hD ⊢
  have hA : ∀ q : Nat, s.heap.size ≤ q → A q := fun q h => by rw [← hAe]; exact Or.inr h
  clear hAe hD0
  have hS : va_S A s.heap s.heap [] := va_S.rf
  have hl := lv_entry ([.long a_0, .long a_1]) (n := 6) (Nat.le_of_ble_eq_true rfl)
  rw [lg_entry_eq]
  generalize (lg_sl ([.long a_0, .long a_1]) ++ List.replicate (6 - (lg_sl ([.long a_0, .long a_1])).length) Slot.unset).toArray = ls at hl ⊢
  replace hl : lv_has ls 6 [(0, .long a_0), (2, .long a_1)] := hl
  unfold wp_MA_floorDiv at hw
  change W p l e rm_MA_floorDiv s m _ below meth c s.heap [] 0 0 _ _
  refine lv_lload_n hx hb d_MA_floorDiv_0 rfl (lv_at hl 0 rfl) ?_
  refine lv_lload_n hx hb d_MA_floorDiv_1 rfl (lv_at hl 1 rfl) ?_
  obtain ⟨h_1, hw⟩ := hw
  refine lv_ldiv hx hb d_MA_floorDiv_2 h_1 ?_
  refine lv_topl (fun v_2 ev_2 => ?_)
  replace hw := hw v_2 ev_2
  refine lv_lstore (lv' := [(4, .long v_2), (0, .long a_0), (2, .long a_1)]) hx hb d_MA_floorDiv_3 hl (by decide) rfl (fun ls hl => ?_)
  refine lv_lload_n hx hb d_MA_floorDiv_5 rfl (lv_at hl 1 rfl) ?_
  refine lv_lload_n hx hb d_MA_floorDiv_6 rfl (lv_at hl 2 rfl) ?_
  refine lv_lxor hx hb d_MA_floorDiv_7 ?_
  refine lv_lconst (v := 0) hx hb d_MA_floorDiv_8 (by decide) ?_
  refine W.lcmp hx hb d_MA_floorDiv_9 ?_
  refine lv_if_ge (tgt := 27) hx hb d_MA_floorDiv_10 (by decide) (fun h_3 => ?_) (fun h_3 => ?_)
  · replace hw := hw.1 h_3
    refine lv_lload hx hb d_MA_floorDiv_27 (lv_at hl 0 rfl) ?_
    exact W.lret (v := v_2) hx hb hr (fun t ht hW => ⟨⟨v_2, (), rfl, hw, by rw [ht]; exact hP, va_K.moved hW.alike hK, hD⟩, hS.F ht⟩) hS.2.2 d_MA_floorDiv_29
  · replace hw := hw.2 h_3
    refine lv_lload hx hb d_MA_floorDiv_13 (lv_at hl 0 rfl) ?_
    refine lv_lload_n hx hb d_MA_floorDiv_15 rfl (lv_at hl 2 rfl) ?_
    refine lv_lmul hx hb d_MA_floorDiv_16 ?_
    refine lv_lload_n hx hb d_MA_floorDiv_17 rfl (lv_at hl 1 rfl) ?_
    refine W.lcmp hx hb d_MA_floorDiv_18 ?_
    refine lv_if_eq (tgt := 27) hx hb d_MA_floorDiv_19 (by decide) (fun h_4 => ?_) (fun h_4 => ?_)
    · replace hw := hw.1 h_4
      refine lv_lload hx hb d_MA_floorDiv_27 (lv_at hl 0 rfl) ?_
      exact W.lret (v := v_2) hx hb hr (fun t ht hW => ⟨⟨v_2, (), rfl, hw, by rw [ht]; exact hP, va_K.moved hW.alike hK, hD⟩, hS.F ht⟩) hS.2.2 d_MA_floorDiv_29
    · replace hw := hw.2 h_4
      refine lv_lload hx hb d_MA_floorDiv_22 (lv_at hl 0 rfl) ?_
      refine lv_lconst (v := 1) hx hb d_MA_floorDiv_24 (by decide) ?_
      refine lv_lsub hx hb d_MA_floorDiv_25 ?_
      exact W.lret (v := v_2 - 1) hx hb hr (fun t ht hW => ⟨⟨v_2 - 1, (), rfl, hw, by rw [ht]; exact hP, va_K.moved hW.alike hK, hD⟩, hS.F ht⟩) hS.2.2 d_MA_floorDiv_26
set_option maxHeartbeats 4000000 in
set_option maxRecDepth 100000 in
theorem go_MA_floorDiv {p : Program} {l : Launch} {e : Env} {R : Room} {s : State} {m : MethodId} {args : Array Value} {below : List Frame} {meth : Method} {c : Code} {H : Heap} {locs : List Loc} {cells slots : Nat} {Q : State → Prop} {cc : ByteArray} {nL : Nat} {Ts : List Cond} {own : String} {index : Nat} {A0 : Nat → Prop} {H0 : Heap} {dC : Nat → ClassId} {dI : Nat → Nat → Nat} {ws wr : va_W} {tys : List (ClassId × FieldType)}  {a_0 : Int64} {a_1 : Int64} {post : Int64 → Prop} (S : CallFix p m c cc nL s args Ts own) (cw : CallB R s args own index y_MA_floorDiv b_MA_floorDiv 6 (some .long) (zz_w y_MA_floorDiv b_MA_floorDiv 6 (some .long)) rm_MA_floorDiv 0 0 2 ∧ (Cond.static y_MA_floorDiv).before args s = true) (hK : va_K (dC, dI) zz_cl tys s) (hP : va_P (dC, dI) zz_cl ws H) (hD : va_D A0 ws) (hS : va_S A0 H0 H locs) (hA : ∀ q, H0.size ≤ q → A0 q) (isC isR kt : List Nat) (h1 : isC.filterMap (fun i => ws[i]?) = []) (h2 : isC.map (fun i => ws[i]?) = ([] : va_W).map some) (h3 : va_nd isC = true) (h4 : isR.map (fun i => ws[i]?) = wr.map some) (h5 : va_nd isR = true) (h6 : ∀ i ∈ isR, i ∉ isC) (h7 : kt.filterMap (fun i => tys[i]?) = []) (hw : wp_MA_floorDiv a_0 a_1 post) {pc : Nat} {ls : Array Slot} {rest : List Value} (hsize : ls.size = nL) (hrest : (rest.map fun v => v.category).sum ≤ 8) (hdg : decode cc pc = .ok (.invokestatic index, 3)) (hf : cells + 0 ≤ R.cells ∧ slots + 0 ≤ R.slots) (kk : ∀ (r : Int64) (H1 : Heap) (locs1 : List Loc), post r → va_P (dC, dI) zz_cl (wr ++ []) H1 → va_D A0 (wr ++ []) → va_S A0 H0 H1 locs1 → W p l e R s m args below meth c H1 locs1 (cells + 0) (slots + 0) Q (F0 m (pc + 3) ls (.long r :: rest))) : W p l e R s m args below meth c H locs cells slots Q (F0 m pc ls (.long a_1 :: .long a_0 :: rest)) := by
  have hPc := hP.sub (ws' := []) isC h1
  have hDc := hD.sub (ws' := []) isC h3 h2
  have hKc := hK.sub (tys' := []) kt h7
  have hFc := va_free (wc := []) hD hS hA isC h2
  refine va_calll (va_runS (As := [.long a_0, .long a_1]) (rest := rest) S (c_MA_floorDiv l dC dI H.size a_0 a_1 post hw) cw ⟨zz_blind, fun U hU hW => ⟨rfl, by rw [hU], by rw [hU]; exact hPc, va_K.moved hW.alike hKc, hDc.weaken (fun _ _ _ _ => trivial)⟩⟩ rfl rfl hsize rfl (lv_room hrest) hdg hf) hS (fun q _ h => hFc q h) hFc (fun r u t H1 locs ht hvm hw hB hz1 hk1 hS => ?_)
  obtain ⟨hP1, hK1, hD1⟩ := hB
  rw [ht] at hP1
  obtain ⟨hP2, hD2⟩ := va_join (wr := wr) (w1 := []) hP hD isC isR h2 h4 h5 h6 hk1 hFc hP1 hD1
  exact kk r H1 locs hw hP2 hD2 hS
abbrev rm_RD_keepSmall : Room := { frames := 2, cells := 0, slots := 0, locals := 49 }
abbrev qz_RD_keepSmall (dC : Nat → ClassId) (dI : Nat → Nat → Nat) (q_this q_cells q_beginnings : Nat) (k_cells k_beginnings : ClassId) (x_height : Int32) (x_width : Int32) (x_imageHeight : Int32) (x_beginnings : Nat → Int32) (post : (Nat → Int64) → Prop) (A : Nat → Prop) : Array Value → State → Outcome → State → Prop := va_Qv (fun (u : (Nat → Int64)) => post u) (fun (u : (Nat → Int64)) (t : State) => va_P (dC, dI) zz_cl [(q_this, .inr (2, [.ref q_cells, .ref q_beginnings, .int x_height, .int x_width, .int x_imageHeight])), (q_cells, .inl (k_cells, 32, .inr (.inl u))), (q_beginnings, .inl (k_beginnings, 4, .inl x_beginnings))] t.heap ∧ va_K (dC, dI) zz_cl [(k_cells, .long), (k_beginnings, .int)] t ∧ va_D A [(q_this, .inr (2, [.ref q_cells, .ref q_beginnings, .int x_height, .int x_width, .int x_imageHeight])), (q_cells, .inl (k_cells, 32, .inr (.inl u))), (q_beginnings, .inl (k_beginnings, 4, .inl x_beginnings))]) A
def cx_RD_keepSmall (p : Program) (s : State) (m : MethodId) (args : Array Value) (meth : Method) (c : Code) : Prop := p.tables.exec = Jvm.exec ∧ c.code = b_RD_keepSmall ∧ meth.sig.returnType = none ∧ c.maxLocals = 8 ∧ s.vm.findClass "StructureRows$Reduction" = some m.cls ∧ (∀ w ∈ zz_GW, w.before args s = true) ∧ meth.locks = false
def wp_RD_keepSmall_72 (x_height : Int32) (x_width : Int32) (x_imageHeight : Int32) (x_beginnings : Nat → Int32) (u_1 : Int32) (u_2 : Int32) (u_3 : Int32) (u_4 : Int32) (u_5 : Int64) (post : (Nat → Int64) → Prop) (K_2 : (Nat → Int64) → Int32 → Prop) (K_27 : (Nat → Int64) → Int32 → Prop) (x_cells : Nat → Int64) (u_7 : Int32) : Prop := ∀ v_8 : Int32, v_8 = u_7 + 1 → (K_27 x_cells v_8)
set_option maxHeartbeats 4000000 in
set_option maxRecDepth 100000 in
theorem k_RD_keepSmall_72 {p : Program} {l : Launch} {e : Env} {s : State} {m : MethodId} {args : Array Value} {below : List Frame} {meth : Method} {c : Code} {dC : Nat → ClassId} {dI : Nat → Nat → Nat} {A : Nat → Prop} {q_this q_cells q_beginnings : Nat} {k_cells k_beginnings : ClassId} {x_height : Int32} {x_width : Int32} {x_imageHeight : Int32} {x_beginnings : Nat → Int32} {u_1 : Int32} {u_2 : Int32} {u_3 : Int32} {u_4 : Int32} {u_5 : Int64} {post : (Nat → Int64) → Prop} {K_2 : (Nat → Int64) → Int32 → Prop} {K_27 : (Nat → Int64) → Int32 → Prop} (C0 : cx_RD_keepSmall p s m args meth c) (hA : ∀ q : Nat, s.heap.size ≤ q → A q) (hK : va_K (dC, dI) zz_cl [(k_cells, .long), (k_beginnings, .int)] s) (hg_2 : ∀ (x_cells : Nat → Int64) (u_3 : Int32) (H : Heap) (locs : List Loc) (ls : Array Slot), K_2 x_cells u_3 → va_P (dC, dI) zz_cl [(q_this, .inr (2, [.ref q_cells, .ref q_beginnings, .int x_height, .int x_width, .int x_imageHeight])), (q_cells, .inl (k_cells, 32, .inr (.inl x_cells))), (q_beginnings, .inl (k_beginnings, 4, .inl x_beginnings))] H → va_D A [(q_this, .inr (2, [.ref q_cells, .ref q_beginnings, .int x_height, .int x_width, .int x_imageHeight])), (q_cells, .inl (k_cells, 32, .inr (.inl x_cells))), (q_beginnings, .inl (k_beginnings, 4, .inl x_beginnings))] → va_S A s.heap H locs → lv_has ls 8 [(0, .ref q_this), (1, .int u_1), (2, .int u_2), (3, .int u_3)] → W p l e rm_RD_keepSmall s m args below meth c H locs 0 0 (MQ below (qz_RD_keepSmall dC dI q_this q_cells q_beginnings k_cells k_beginnings x_height x_width x_imageHeight x_beginnings post A) args s 0 0 A) (F0 m 2 ls [])) (hg_27 : ∀ (x_cells : Nat → Int64) (u_7 : Int32) (H : Heap) (locs : List Loc) (ls : Array Slot), K_27 x_cells u_7 → va_P (dC, dI) zz_cl [(q_this, .inr (2, [.ref q_cells, .ref q_beginnings, .int x_height, .int x_width, .int x_imageHeight])), (q_cells, .inl (k_cells, 32, .inr (.inl x_cells))), (q_beginnings, .inl (k_beginnings, 4, .inl x_beginnings))] H → va_D A [(q_this, .inr (2, [.ref q_cells, .ref q_beginnings, .int x_height, .int x_width, .int x_imageHeight])), (q_cells, .inl (k_cells, 32, .inr (.inl x_cells))), (q_beginnings, .inl (k_beginnings, 4, .inl x_beginnings))] → va_S A s.heap H locs → lv_has ls 8 [(0, .ref q_this), (1, .int u_1), (2, .int u_2), (3, .int u_3), (4, .int u_4), (5, .long u_5), (7, .int u_7)] → W p l e rm_RD_keepSmall s m args below meth c H locs 0 0 (MQ below (qz_RD_keepSmall dC dI q_this q_cells q_beginnings k_cells k_beginnings x_height x_width x_imageHeight x_beginnings post A) args s 0 0 A) (F0 m 27 ls [])) {x_cells : Nat → Int64} {u_7 : Int32} (hw : wp_RD_keepSmall_72 x_height x_width x_imageHeight x_beginnings u_1 u_2 u_3 u_4 u_5 post K_2 K_27 x_cells u_7) {H : Heap} {locs : List Loc} {ls : Array Slot} (hP : va_P (dC, dI) zz_cl [(q_this, .inr (2, [.ref q_cells, .ref q_beginnings, .int x_height, .int x_width, .int x_imageHeight])), (q_cells, .inl (k_cells, 32, .inr (.inl x_cells))), (q_beginnings, .inl (k_beginnings, 4, .inl x_beginnings))] H) (hD : va_D A [(q_this, .inr (2, [.ref q_cells, .ref q_beginnings, .int x_height, .int x_width, .int x_imageHeight])), (q_cells, .inl (k_cells, 32, .inr (.inl x_cells))), (q_beginnings, .inl (k_beginnings, 4, .inl x_beginnings))]) (hS : va_S A s.heap H locs) (hl : lv_has ls 8 [(0, .ref q_this), (1, .int u_1), (2, .int u_2), (3, .int u_3), (4, .int u_4), (5, .long u_5), (7, .int u_7)]) : W p l e rm_RD_keepSmall s m args below meth c H locs 0 0 (MQ below (qz_RD_keepSmall dC dI q_this q_cells q_beginnings k_cells k_beginnings x_height x_width x_imageHeight x_beginnings post A) args s 0 0 A) (F0 m 72 ls []) := by
  have C1 := C0
  obtain ⟨hx, hb, hr, hml, hown, hts, hlocks⟩ := C1
  unfold wp_RD_keepSmall_72 at hw
  obtain ⟨v_8, ev_8⟩ : ∃ y : Int32, y = u_7 + 1 := ⟨_, rfl⟩
  replace hw := hw v_8 ev_8
  refine lv_iinc (v := v_8) (lv' := [(7, .int v_8), (0, .ref q_this), (1, .int u_1), (2, .int u_2), (3, .int u_3), (4, .int u_4), (5, .long u_5)]) hx hb d_RD_keepSmall_72 hl (k := 6) rfl (by rw [ev_8]; rfl) (by decide) rfl (fun ls hl => ?_)
  refine lv_goto (tgt := 27) hx hb d_RD_keepSmall_75 (by decide) ?_
  exact hg_27 x_cells v_8 H locs ls hw hP hD hS (lv_sub hl [1, 2, 3, 4, 5, 6, 0] rfl)
def wp_RD_keepSmall_52 (x_height : Int32) (x_width : Int32) (x_imageHeight : Int32) (x_beginnings : Nat → Int32) (u_1 : Int32) (u_2 : Int32) (u_3 : Int32) (u_4 : Int32) (u_5 : Int64) (post : (Nat → Int64) → Prop) (K_2 : (Nat → Int64) → Int32 → Prop) (K_27 : (Nat → Int64) → Int32 → Prop) (x_cells : Nat → Int64) (u_7 : Int32) : Prop := wp_RD_cell x_height x_width x_imageHeight x_cells u_7 u_4 (fun (r_10 : Int64) => (wp_MA_floorDiv r_10 u_5 (fun (r_11 : Int64) => (wp_RD_takeAway x_height x_width x_imageHeight x_cells u_7 u_3 r_11 (fun (m_12 : Nat → Int64) => (wp_RD_keepSmall_72 x_height x_width x_imageHeight x_beginnings u_1 u_2 u_3 u_4 u_5 post K_2 K_27 m_12 u_7))))))
set_option maxHeartbeats 4000000 in
set_option maxRecDepth 100000 in
theorem k_RD_keepSmall_52 {p : Program} {l : Launch} {e : Env} {s : State} {m : MethodId} {args : Array Value} {below : List Frame} {meth : Method} {c : Code} {dC : Nat → ClassId} {dI : Nat → Nat → Nat} {A : Nat → Prop} {q_this q_cells q_beginnings : Nat} {k_cells k_beginnings : ClassId} {x_height : Int32} {x_width : Int32} {x_imageHeight : Int32} {x_beginnings : Nat → Int32} {u_1 : Int32} {u_2 : Int32} {u_3 : Int32} {u_4 : Int32} {u_5 : Int64} {post : (Nat → Int64) → Prop} {K_2 : (Nat → Int64) → Int32 → Prop} {K_27 : (Nat → Int64) → Int32 → Prop} (C0 : cx_RD_keepSmall p s m args meth c) (hA : ∀ q : Nat, s.heap.size ≤ q → A q) (hK : va_K (dC, dI) zz_cl [(k_cells, .long), (k_beginnings, .int)] s) (hg_2 : ∀ (x_cells : Nat → Int64) (u_3 : Int32) (H : Heap) (locs : List Loc) (ls : Array Slot), K_2 x_cells u_3 → va_P (dC, dI) zz_cl [(q_this, .inr (2, [.ref q_cells, .ref q_beginnings, .int x_height, .int x_width, .int x_imageHeight])), (q_cells, .inl (k_cells, 32, .inr (.inl x_cells))), (q_beginnings, .inl (k_beginnings, 4, .inl x_beginnings))] H → va_D A [(q_this, .inr (2, [.ref q_cells, .ref q_beginnings, .int x_height, .int x_width, .int x_imageHeight])), (q_cells, .inl (k_cells, 32, .inr (.inl x_cells))), (q_beginnings, .inl (k_beginnings, 4, .inl x_beginnings))] → va_S A s.heap H locs → lv_has ls 8 [(0, .ref q_this), (1, .int u_1), (2, .int u_2), (3, .int u_3)] → W p l e rm_RD_keepSmall s m args below meth c H locs 0 0 (MQ below (qz_RD_keepSmall dC dI q_this q_cells q_beginnings k_cells k_beginnings x_height x_width x_imageHeight x_beginnings post A) args s 0 0 A) (F0 m 2 ls [])) (hg_27 : ∀ (x_cells : Nat → Int64) (u_7 : Int32) (H : Heap) (locs : List Loc) (ls : Array Slot), K_27 x_cells u_7 → va_P (dC, dI) zz_cl [(q_this, .inr (2, [.ref q_cells, .ref q_beginnings, .int x_height, .int x_width, .int x_imageHeight])), (q_cells, .inl (k_cells, 32, .inr (.inl x_cells))), (q_beginnings, .inl (k_beginnings, 4, .inl x_beginnings))] H → va_D A [(q_this, .inr (2, [.ref q_cells, .ref q_beginnings, .int x_height, .int x_width, .int x_imageHeight])), (q_cells, .inl (k_cells, 32, .inr (.inl x_cells))), (q_beginnings, .inl (k_beginnings, 4, .inl x_beginnings))] → va_S A s.heap H locs → lv_has ls 8 [(0, .ref q_this), (1, .int u_1), (2, .int u_2), (3, .int u_3), (4, .int u_4), (5, .long u_5), (7, .int u_7)] → W p l e rm_RD_keepSmall s m args below meth c H locs 0 0 (MQ below (qz_RD_keepSmall dC dI q_this q_cells q_beginnings k_cells k_beginnings x_height x_width x_imageHeight x_beginnings post A) args s 0 0 A) (F0 m 27 ls [])) {x_cells : Nat → Int64} {u_7 : Int32} (hw : wp_RD_keepSmall_52 x_height x_width x_imageHeight x_beginnings u_1 u_2 u_3 u_4 u_5 post K_2 K_27 x_cells u_7) {H : Heap} {locs : List Loc} {ls : Array Slot} (hP : va_P (dC, dI) zz_cl [(q_this, .inr (2, [.ref q_cells, .ref q_beginnings, .int x_height, .int x_width, .int x_imageHeight])), (q_cells, .inl (k_cells, 32, .inr (.inl x_cells))), (q_beginnings, .inl (k_beginnings, 4, .inl x_beginnings))] H) (hD : va_D A [(q_this, .inr (2, [.ref q_cells, .ref q_beginnings, .int x_height, .int x_width, .int x_imageHeight])), (q_cells, .inl (k_cells, 32, .inr (.inl x_cells))), (q_beginnings, .inl (k_beginnings, 4, .inl x_beginnings))]) (hS : va_S A s.heap H locs) (hl : lv_has ls 8 [(0, .ref q_this), (1, .int u_1), (2, .int u_2), (3, .int u_3), (4, .int u_4), (5, .long u_5), (7, .int u_7)]) : W p l e rm_RD_keepSmall s m args below meth c H locs 0 0 (MQ below (qz_RD_keepSmall dC dI q_this q_cells q_beginnings k_cells k_beginnings x_height x_width x_imageHeight x_beginnings post A) args s 0 0 A) (F0 m 52 ls []) := by
  have C1 := C0
  obtain ⟨hx, hb, hr, hml, hown, hts, hlocks⟩ := C1
  unfold wp_RD_keepSmall_52 at hw
  refine lv_aload_n hx hb d_RD_keepSmall_52 rfl (lv_at hl 0 rfl) ?_
  refine lv_iload hx hb d_RD_keepSmall_53 (lv_at hl 6 rfl) ?_
  refine lv_iload_n hx hb d_RD_keepSmall_55 rfl (lv_at hl 3 rfl) ?_
  refine lv_aload_n hx hb d_RD_keepSmall_56 rfl (lv_at hl 0 rfl) ?_
  refine lv_iload hx hb d_RD_keepSmall_57 (lv_at hl 6 rfl) ?_
  refine lv_iload hx hb d_RD_keepSmall_59 (lv_at hl 4 rfl) ?_
  refine go_RD_cell (wr := [(q_beginnings, .inl (k_beginnings, 4, .inl x_beginnings))]) ⟨hx, hb, hml, hown, hts⟩ (zz_cwV 2 hts tw_164 tw_161 tw_163 tw_2 tw_32 ⟨by decide, by decide, by decide +kernel⟩ ⟨Nat.le_of_ble_eq_true rfl, Nat.le_of_ble_eq_true rfl⟩) hK hP hD hS hA [0, 1] [2] [0] rfl rfl (by decide) rfl (by decide) (by decide) rfl hw hl.1 (Nat.le_of_ble_eq_true rfl) d_RD_keepSmall_61 ⟨Nat.le_of_ble_eq_true rfl, Nat.le_of_ble_eq_true rfl⟩ (fun r_10 H locs hw hP hD hS => ?_)
  replace hP : va_P (dC, dI) zz_cl [(q_beginnings, .inl (k_beginnings, 4, .inl x_beginnings)), (q_this, .inr (2, [.ref q_cells, .ref q_beginnings, .int x_height, .int x_width, .int x_imageHeight])), (q_cells, .inl (k_cells, 32, .inr (.inl x_cells)))] H := hP
  replace hD : va_D A [(q_beginnings, .inl (k_beginnings, 4, .inl x_beginnings)), (q_this, .inr (2, [.ref q_cells, .ref q_beginnings, .int x_height, .int x_width, .int x_imageHeight])), (q_cells, .inl (k_cells, 32, .inr (.inl x_cells)))] := hD
  refine lv_lload hx hb d_RD_keepSmall_64 (lv_at hl 5 rfl) ?_
  refine go_MA_floorDiv (wr := [(q_beginnings, .inl (k_beginnings, 4, .inl x_beginnings)), (q_this, .inr (2, [.ref q_cells, .ref q_beginnings, .int x_height, .int x_width, .int x_imageHeight])), (q_cells, .inl (k_cells, 32, .inr (.inl x_cells)))]) ⟨hx, hb, hml, hown, hts⟩ (zz_cwS 2 hts tw_187 tw_185 tw_186 tw_42 ⟨by decide, by decide, by decide +kernel⟩ ⟨Nat.le_of_ble_eq_true rfl, Nat.le_of_ble_eq_true rfl⟩) hK hP hD hS hA [] [0, 1, 2] [] rfl rfl (by decide) rfl (by decide) (by decide) rfl hw hl.1 (Nat.le_of_ble_eq_true rfl) d_RD_keepSmall_66 ⟨Nat.le_of_ble_eq_true rfl, Nat.le_of_ble_eq_true rfl⟩ (fun r_11 H locs hw hP hD hS => ?_)
  replace hP : va_P (dC, dI) zz_cl [(q_beginnings, .inl (k_beginnings, 4, .inl x_beginnings)), (q_this, .inr (2, [.ref q_cells, .ref q_beginnings, .int x_height, .int x_width, .int x_imageHeight])), (q_cells, .inl (k_cells, 32, .inr (.inl x_cells)))] H := hP
  replace hD : va_D A [(q_beginnings, .inl (k_beginnings, 4, .inl x_beginnings)), (q_this, .inr (2, [.ref q_cells, .ref q_beginnings, .int x_height, .int x_width, .int x_imageHeight])), (q_cells, .inl (k_cells, 32, .inr (.inl x_cells)))] := hD
  refine go_RD_takeAway (wr := [(q_beginnings, .inl (k_beginnings, 4, .inl x_beginnings))]) ⟨hx, hb, hml, hown, hts⟩ (zz_cwV 3 hts tw_172 tw_169 tw_171 tw_4 tw_32 ⟨by decide, by decide, by decide +kernel⟩ ⟨Nat.le_of_ble_eq_true rfl, Nat.le_of_ble_eq_true rfl⟩) hK hP hD hS hA [1, 2] [0] [0] rfl rfl (by decide) rfl (by decide) (by decide) rfl hw hl.1 (Nat.le_of_ble_eq_true rfl) d_RD_keepSmall_69 ⟨Nat.le_of_ble_eq_true rfl, Nat.le_of_ble_eq_true rfl⟩ (fun m_12 H locs hw hP hD hS => ?_)
  replace hP : va_P (dC, dI) zz_cl [(q_beginnings, .inl (k_beginnings, 4, .inl x_beginnings)), (q_this, .inr (2, [.ref q_cells, .ref q_beginnings, .int x_height, .int x_width, .int x_imageHeight])), (q_cells, .inl (k_cells, 32, .inr (.inl m_12)))] H := hP
  replace hD : va_D A [(q_beginnings, .inl (k_beginnings, 4, .inl x_beginnings)), (q_this, .inr (2, [.ref q_cells, .ref q_beginnings, .int x_height, .int x_width, .int x_imageHeight])), (q_cells, .inl (k_cells, 32, .inr (.inl m_12)))] := hD
  exact k_RD_keepSmall_72 C0 hA hK hg_2 hg_27 hw (hP.sub [1, 2, 0] rfl) (hD.sub [1, 2, 0] (by decide) rfl) hS hl
def wp_RD_keepSmall_27b (x_height : Int32) (x_width : Int32) (x_imageHeight : Int32) (x_beginnings : Nat → Int32) (u_1 : Int32) (u_2 : Int32) (u_3 : Int32) (u_4 : Int32) (u_5 : Int64) (post : (Nat → Int64) → Prop) (K_2 : (Nat → Int64) → Int32 → Prop) (P : (Nat → Int64) → Int32 → Prop) (x_cells : Nat → Int64) (u_7 : Int32) : Prop := (u_2 < u_7 → (∀ v_6 : Int32, v_6 = u_3 + 1 → (K_2 x_cells v_6))) ∧ (¬ u_2 < u_7 → (((lg_cmp u_5 0) ≤ 0 → (wp_RD_keepSmall_72 x_height x_width x_imageHeight x_beginnings u_1 u_2 u_3 u_4 u_5 post K_2 P x_cells u_7)) ∧ (¬ (lg_cmp u_5 0) ≤ 0 → ((u_7 < u_3 → (wp_RD_keepSmall_52 x_height x_width x_imageHeight x_beginnings u_1 u_2 u_3 u_4 u_5 post K_2 P x_cells u_7)) ∧ (¬ u_7 < u_3 → ((u_7 < u_1 → (wp_RD_keepSmall_72 x_height x_width x_imageHeight x_beginnings u_1 u_2 u_3 u_4 u_5 post K_2 P x_cells u_7)) ∧ (¬ u_7 < u_1 → (wp_RD_keepSmall_52 x_height x_width x_imageHeight x_beginnings u_1 u_2 u_3 u_4 u_5 post K_2 P x_cells u_7))))))))
def wp_RD_keepSmall_27 (x_height : Int32) (x_width : Int32) (x_imageHeight : Int32) (x_beginnings : Nat → Int32) (u_1 : Int32) (u_2 : Int32) (u_3 : Int32) (u_4 : Int32) (u_5 : Int64) (post : (Nat → Int64) → Prop) (K_2 : (Nat → Int64) → Int32 → Prop) (x_cells : Nat → Int64) (u_7 : Int32) : Prop := ∀ P : (Nat → Int64) → Int32 → Prop, (∀ (x_cells : Nat → Int64) (u_7 : Int32), wp_RD_keepSmall_27b x_height x_width x_imageHeight x_beginnings u_1 u_2 u_3 u_4 u_5 post K_2 P x_cells u_7 → P x_cells u_7) → P x_cells u_7
set_option maxHeartbeats 4000000 in
set_option maxRecDepth 100000 in
theorem k_RD_keepSmall_27 {p : Program} {l : Launch} {e : Env} {s : State} {m : MethodId} {args : Array Value} {below : List Frame} {meth : Method} {c : Code} {dC : Nat → ClassId} {dI : Nat → Nat → Nat} {A : Nat → Prop} {q_this q_cells q_beginnings : Nat} {k_cells k_beginnings : ClassId} {x_height : Int32} {x_width : Int32} {x_imageHeight : Int32} {x_beginnings : Nat → Int32} {u_1 : Int32} {u_2 : Int32} {u_3 : Int32} {u_4 : Int32} {u_5 : Int64} {post : (Nat → Int64) → Prop} {K_2 : (Nat → Int64) → Int32 → Prop} (C0 : cx_RD_keepSmall p s m args meth c) (hA : ∀ q : Nat, s.heap.size ≤ q → A q) (hK : va_K (dC, dI) zz_cl [(k_cells, .long), (k_beginnings, .int)] s) (hg_2 : ∀ (x_cells : Nat → Int64) (u_3 : Int32) (H : Heap) (locs : List Loc) (ls : Array Slot), K_2 x_cells u_3 → va_P (dC, dI) zz_cl [(q_this, .inr (2, [.ref q_cells, .ref q_beginnings, .int x_height, .int x_width, .int x_imageHeight])), (q_cells, .inl (k_cells, 32, .inr (.inl x_cells))), (q_beginnings, .inl (k_beginnings, 4, .inl x_beginnings))] H → va_D A [(q_this, .inr (2, [.ref q_cells, .ref q_beginnings, .int x_height, .int x_width, .int x_imageHeight])), (q_cells, .inl (k_cells, 32, .inr (.inl x_cells))), (q_beginnings, .inl (k_beginnings, 4, .inl x_beginnings))] → va_S A s.heap H locs → lv_has ls 8 [(0, .ref q_this), (1, .int u_1), (2, .int u_2), (3, .int u_3)] → W p l e rm_RD_keepSmall s m args below meth c H locs 0 0 (MQ below (qz_RD_keepSmall dC dI q_this q_cells q_beginnings k_cells k_beginnings x_height x_width x_imageHeight x_beginnings post A) args s 0 0 A) (F0 m 2 ls [])) {x_cells : Nat → Int64} {u_7 : Int32} (hw : wp_RD_keepSmall_27 x_height x_width x_imageHeight x_beginnings u_1 u_2 u_3 u_4 u_5 post K_2 x_cells u_7) {H : Heap} {locs : List Loc} {ls : Array Slot} (hP : va_P (dC, dI) zz_cl [(q_this, .inr (2, [.ref q_cells, .ref q_beginnings, .int x_height, .int x_width, .int x_imageHeight])), (q_cells, .inl (k_cells, 32, .inr (.inl x_cells))), (q_beginnings, .inl (k_beginnings, 4, .inl x_beginnings))] H) (hD : va_D A [(q_this, .inr (2, [.ref q_cells, .ref q_beginnings, .int x_height, .int x_width, .int x_imageHeight])), (q_cells, .inl (k_cells, 32, .inr (.inl x_cells))), (q_beginnings, .inl (k_beginnings, 4, .inl x_beginnings))]) (hS : va_S A s.heap H locs) (hl : lv_has ls 8 [(0, .ref q_this), (1, .int u_1), (2, .int u_2), (3, .int u_3), (4, .int u_4), (5, .long u_5), (7, .int u_7)]) : W p l e rm_RD_keepSmall s m args below meth c H locs 0 0 (MQ below (qz_RD_keepSmall dC dI q_this q_cells q_beginnings k_cells k_beginnings x_height x_width x_imageHeight x_beginnings post A) args s 0 0 A) (F0 m 27 ls []) := by
  have C1 := C0
  obtain ⟨hx, hb, hr, hml, hown, hts, hlocks⟩ := C1
  refine hw (fun (x_cells : Nat → Int64) (u_7 : Int32) => ∀ (H : Heap) (locs : List Loc) (ls : Array Slot), va_P (dC, dI) zz_cl [(q_this, .inr (2, [.ref q_cells, .ref q_beginnings, .int x_height, .int x_width, .int x_imageHeight])), (q_cells, .inl (k_cells, 32, .inr (.inl x_cells))), (q_beginnings, .inl (k_beginnings, 4, .inl x_beginnings))] H → va_D A [(q_this, .inr (2, [.ref q_cells, .ref q_beginnings, .int x_height, .int x_width, .int x_imageHeight])), (q_cells, .inl (k_cells, 32, .inr (.inl x_cells))), (q_beginnings, .inl (k_beginnings, 4, .inl x_beginnings))] → va_S A s.heap H locs → lv_has ls 8 [(0, .ref q_this), (1, .int u_1), (2, .int u_2), (3, .int u_3), (4, .int u_4), (5, .long u_5), (7, .int u_7)] → W p l e rm_RD_keepSmall s m args below meth c H locs 0 0 (MQ below (qz_RD_keepSmall dC dI q_this q_cells q_beginnings k_cells k_beginnings x_height x_width x_imageHeight x_beginnings post A) args s 0 0 A) (F0 m 27 ls [])) ?_ H locs ls hP hD hS hl
  clear hw hP hD hS hl H locs ls
  intro x_cells u_7 hw H locs ls hP hD hS hl
  unfold wp_RD_keepSmall_27b at hw
  refine lv_iload hx hb d_RD_keepSmall_27 (lv_at hl 6 rfl) ?_
  refine lv_iload_n hx hb d_RD_keepSmall_29 rfl (lv_at hl 2 rfl) ?_
  refine lv_icmp_gt (tgt := 78) hx hb d_RD_keepSmall_30 (by decide) (fun h_5 => ?_) (fun h_5 => ?_)
  · replace hw := hw.1 h_5
    obtain ⟨v_6, ev_6⟩ : ∃ y : Int32, y = u_3 + 1 := ⟨_, rfl⟩
    replace hw := hw v_6 ev_6
    refine lv_iinc (v := v_6) (lv' := [(3, .int v_6), (0, .ref q_this), (1, .int u_1), (2, .int u_2), (4, .int u_4), (5, .long u_5), (7, .int u_7)]) hx hb d_RD_keepSmall_78 hl (k := 3) rfl (by rw [ev_6]; rfl) (by decide) rfl (fun ls hl => ?_)
    refine lv_goto (tgt := 2) hx hb d_RD_keepSmall_81 (by decide) ?_
    exact hg_2 x_cells v_6 H locs ls hw hP hD hS (lv_sub hl [1, 2, 3, 0] rfl)
  · replace hw := hw.2 h_5
    refine lv_lload hx hb d_RD_keepSmall_33 (lv_at hl 5 rfl) ?_
    refine lv_lconst (v := 0) hx hb d_RD_keepSmall_35 (by decide) ?_
    refine W.lcmp hx hb d_RD_keepSmall_36 ?_
    refine lv_if_le (tgt := 72) hx hb d_RD_keepSmall_37 (by decide) (fun h_7 => ?_) (fun h_7 => ?_)
    · replace hw := hw.1 h_7
      exact k_RD_keepSmall_72 C0 hA hK hg_2 (fun y0 y1 H locs ls h9 h1 h2 h3 h4 => h9 H locs ls h1 h2 h3 h4) hw hP hD hS hl
    · replace hw := hw.2 h_7
      refine lv_iload hx hb d_RD_keepSmall_40 (lv_at hl 6 rfl) ?_
      refine lv_iload_n hx hb d_RD_keepSmall_42 rfl (lv_at hl 3 rfl) ?_
      refine lv_icmp_lt (tgt := 52) hx hb d_RD_keepSmall_43 (by decide) (fun h_9 => ?_) (fun h_9 => ?_)
      · replace hw := hw.1 h_9
        exact k_RD_keepSmall_52 C0 hA hK hg_2 (fun y0 y1 H locs ls h9 h1 h2 h3 h4 => h9 H locs ls h1 h2 h3 h4) hw hP hD hS hl
      · replace hw := hw.2 h_9
        refine lv_iload hx hb d_RD_keepSmall_46 (lv_at hl 6 rfl) ?_
        refine lv_iload_n hx hb d_RD_keepSmall_48 rfl (lv_at hl 1 rfl) ?_
        refine lv_icmp_lt (tgt := 72) hx hb d_RD_keepSmall_49 (by decide) (fun h_13 => ?_) (fun h_13 => ?_)
        · replace hw := hw.1 h_13
          exact k_RD_keepSmall_72 C0 hA hK hg_2 (fun y0 y1 H locs ls h9 h1 h2 h3 h4 => h9 H locs ls h1 h2 h3 h4) hw hP hD hS hl
        · replace hw := hw.2 h_13
          exact k_RD_keepSmall_52 C0 hA hK hg_2 (fun y0 y1 H locs ls h9 h1 h2 h3 h4 => h9 H locs ls h1 h2 h3 h4) hw hP hD hS hl
def wp_RD_keepSmall_2b (x_height : Int32) (x_width : Int32) (x_imageHeight : Int32) (x_beginnings : Nat → Int32) (u_1 : Int32) (u_2 : Int32) (post : (Nat → Int64) → Prop)  (P : (Nat → Int64) → Int32 → Prop) (x_cells : Nat → Int64) (u_3 : Int32) : Prop := (u_1 ≤ u_3 → (post x_cells)) ∧ (¬ u_1 ≤ u_3 → (vp_in u_3 4 ∧ (∀ v_3 : Int32, v_3 = x_beginnings u_3.toNatClampNeg → (wp_RD_cell x_height x_width x_imageHeight x_cells u_3 v_3 (fun (r_4 : Int64) => (wp_RD_keepSmall_27 x_height x_width x_imageHeight x_beginnings u_1 u_2 u_3 v_3 r_4 post P x_cells 0))))))
def wp_RD_keepSmall_2 (x_height : Int32) (x_width : Int32) (x_imageHeight : Int32) (x_beginnings : Nat → Int32) (u_1 : Int32) (u_2 : Int32) (post : (Nat → Int64) → Prop)  (x_cells : Nat → Int64) (u_3 : Int32) : Prop := ∀ P : (Nat → Int64) → Int32 → Prop, (∀ (x_cells : Nat → Int64) (u_3 : Int32), wp_RD_keepSmall_2b x_height x_width x_imageHeight x_beginnings u_1 u_2 post P x_cells u_3 → P x_cells u_3) → P x_cells u_3
set_option maxHeartbeats 4000000 in
set_option maxRecDepth 100000 in
theorem k_RD_keepSmall_2 {p : Program} {l : Launch} {e : Env} {s : State} {m : MethodId} {args : Array Value} {below : List Frame} {meth : Method} {c : Code} {dC : Nat → ClassId} {dI : Nat → Nat → Nat} {A : Nat → Prop} {q_this q_cells q_beginnings : Nat} {k_cells k_beginnings : ClassId} {x_height : Int32} {x_width : Int32} {x_imageHeight : Int32} {x_beginnings : Nat → Int32} {u_1 : Int32} {u_2 : Int32} {post : (Nat → Int64) → Prop}  (C0 : cx_RD_keepSmall p s m args meth c) (hA : ∀ q : Nat, s.heap.size ≤ q → A q) (hK : va_K (dC, dI) zz_cl [(k_cells, .long), (k_beginnings, .int)] s) {x_cells : Nat → Int64} {u_3 : Int32} (hw : wp_RD_keepSmall_2 x_height x_width x_imageHeight x_beginnings u_1 u_2 post x_cells u_3) {H : Heap} {locs : List Loc} {ls : Array Slot} (hP : va_P (dC, dI) zz_cl [(q_this, .inr (2, [.ref q_cells, .ref q_beginnings, .int x_height, .int x_width, .int x_imageHeight])), (q_cells, .inl (k_cells, 32, .inr (.inl x_cells))), (q_beginnings, .inl (k_beginnings, 4, .inl x_beginnings))] H) (hD : va_D A [(q_this, .inr (2, [.ref q_cells, .ref q_beginnings, .int x_height, .int x_width, .int x_imageHeight])), (q_cells, .inl (k_cells, 32, .inr (.inl x_cells))), (q_beginnings, .inl (k_beginnings, 4, .inl x_beginnings))]) (hS : va_S A s.heap H locs) (hl : lv_has ls 8 [(0, .ref q_this), (1, .int u_1), (2, .int u_2), (3, .int u_3)]) : W p l e rm_RD_keepSmall s m args below meth c H locs 0 0 (MQ below (qz_RD_keepSmall dC dI q_this q_cells q_beginnings k_cells k_beginnings x_height x_width x_imageHeight x_beginnings post A) args s 0 0 A) (F0 m 2 ls []) := by
  have C1 := C0
  obtain ⟨hx, hb, hr, hml, hown, hts, hlocks⟩ := C1
  refine hw (fun (x_cells : Nat → Int64) (u_3 : Int32) => ∀ (H : Heap) (locs : List Loc) (ls : Array Slot), va_P (dC, dI) zz_cl [(q_this, .inr (2, [.ref q_cells, .ref q_beginnings, .int x_height, .int x_width, .int x_imageHeight])), (q_cells, .inl (k_cells, 32, .inr (.inl x_cells))), (q_beginnings, .inl (k_beginnings, 4, .inl x_beginnings))] H → va_D A [(q_this, .inr (2, [.ref q_cells, .ref q_beginnings, .int x_height, .int x_width, .int x_imageHeight])), (q_cells, .inl (k_cells, 32, .inr (.inl x_cells))), (q_beginnings, .inl (k_beginnings, 4, .inl x_beginnings))] → va_S A s.heap H locs → lv_has ls 8 [(0, .ref q_this), (1, .int u_1), (2, .int u_2), (3, .int u_3)] → W p l e rm_RD_keepSmall s m args below meth c H locs 0 0 (MQ below (qz_RD_keepSmall dC dI q_this q_cells q_beginnings k_cells k_beginnings x_height x_width x_imageHeight x_beginnings post A) args s 0 0 A) (F0 m 2 ls [])) ?_ H locs ls hP hD hS hl
  clear hw hP hD hS hl H locs ls
  intro x_cells u_3 hw H locs ls hP hD hS hl
  unfold wp_RD_keepSmall_2b at hw
  refine lv_iload_n hx hb d_RD_keepSmall_2 rfl (lv_at hl 3 rfl) ?_
  refine lv_iload_n hx hb d_RD_keepSmall_3 rfl (lv_at hl 1 rfl) ?_
  refine lv_icmp_ge (tgt := 84) hx hb d_RD_keepSmall_4 (by decide) (fun h_1 => ?_) (fun h_1 => ?_)
  · replace hw := hw.1 h_1
    exact W.vret hx hb hr (fun t ht hW => ⟨⟨x_cells, rfl, hw, by rw [ht]; exact hP, va_K.moved hW.alike hK, hD⟩, hS.F ht⟩) hS.2.2 d_RD_keepSmall_84
  · replace hw := hw.2 h_1
    refine lv_aload_n hx hb d_RD_keepSmall_7 rfl (lv_at hl 0 rfl) ?_
    refine va_get (D := (dC, dI)) (ci := 2) (v := .ref q_beginnings) (C := "StructureRows$Reduction") (T := T_RD) (N := 5) hx hb hts in_RD hown hK hP 0 rfl rfl 1 (by decide) (hts _ tw_59) (fun _ h9 => h9) rfl d_RD_keepSmall_8 ?_
    refine lv_iload_n hx hb d_RD_keepSmall_11 rfl (lv_at hl 3 rfl) ?_
    obtain ⟨h_2, hw⟩ := hw
    refine va_iald hx hb hK hP 2 1 rfl rfl h_2 d_RD_keepSmall_12 ?_
    refine lv_topi (fun v_3 ev_3 => ?_)
    replace hw := hw v_3 ev_3
    refine lv_istore (lv' := [(4, .int v_3), (0, .ref q_this), (1, .int u_1), (2, .int u_2), (3, .int u_3)]) hx hb d_RD_keepSmall_13 hl (by decide) rfl (fun ls hl => ?_)
    refine lv_aload_n hx hb d_RD_keepSmall_15 rfl (lv_at hl 1 rfl) ?_
    refine lv_iload_n hx hb d_RD_keepSmall_16 rfl (lv_at hl 4 rfl) ?_
    refine lv_iload hx hb d_RD_keepSmall_17 (lv_at hl 0 rfl) ?_
    refine go_RD_cell (wr := [(q_beginnings, .inl (k_beginnings, 4, .inl x_beginnings))]) ⟨hx, hb, hml, hown, hts⟩ (zz_cwV 2 hts tw_164 tw_161 tw_163 tw_2 tw_32 ⟨by decide, by decide, by decide +kernel⟩ ⟨Nat.le_of_ble_eq_true rfl, Nat.le_of_ble_eq_true rfl⟩) hK hP hD hS hA [0, 1] [2] [0] rfl rfl (by decide) rfl (by decide) (by decide) rfl hw hl.1 (Nat.le_of_ble_eq_true rfl) d_RD_keepSmall_19 ⟨Nat.le_of_ble_eq_true rfl, Nat.le_of_ble_eq_true rfl⟩ (fun r_4 H locs hw hP hD hS => ?_)
    replace hP : va_P (dC, dI) zz_cl [(q_beginnings, .inl (k_beginnings, 4, .inl x_beginnings)), (q_this, .inr (2, [.ref q_cells, .ref q_beginnings, .int x_height, .int x_width, .int x_imageHeight])), (q_cells, .inl (k_cells, 32, .inr (.inl x_cells)))] H := hP
    replace hD : va_D A [(q_beginnings, .inl (k_beginnings, 4, .inl x_beginnings)), (q_this, .inr (2, [.ref q_cells, .ref q_beginnings, .int x_height, .int x_width, .int x_imageHeight])), (q_cells, .inl (k_cells, 32, .inr (.inl x_cells)))] := hD
    refine lv_lstore (lv' := [(5, .long r_4), (4, .int v_3), (0, .ref q_this), (1, .int u_1), (2, .int u_2), (3, .int u_3)]) hx hb d_RD_keepSmall_22 hl (by decide) rfl (fun ls hl => ?_)
    refine lv_iconst (v := 0) hx hb d_RD_keepSmall_24 (by decide) ?_
    refine lv_istore (lv' := [(7, .int 0), (5, .long r_4), (4, .int v_3), (0, .ref q_this), (1, .int u_1), (2, .int u_2), (3, .int u_3)]) hx hb d_RD_keepSmall_25 hl (by decide) rfl (fun ls hl => ?_)
    exact k_RD_keepSmall_27 C0 hA hK (fun y0 y1 H locs ls h9 h1 h2 h3 h4 => h9 H locs ls h1 h2 h3 h4) hw (hP.sub [1, 2, 0] rfl) (hD.sub [1, 2, 0] (by decide) rfl) hS (lv_sub hl [3, 4, 5, 6, 2, 1, 0] rfl)
def wp_RD_keepSmall (x_height : Int32) (x_width : Int32) (x_imageHeight : Int32) (x_cells : Nat → Int64) (x_beginnings : Nat → Int32) (a_0 : Int32) (a_1 : Int32) (post : (Nat → Int64) → Prop) : Prop := wp_RD_keepSmall_2 x_height x_width x_imageHeight x_beginnings a_0 a_1 post x_cells 0
set_option maxHeartbeats 4000000 in
set_option maxRecDepth 100000 in
theorem c_RD_keepSmall (l : Launch) (dC : Nat → ClassId) (dI : Nat → Nat → Nat) (q_this q_cells q_beginnings : Nat) (k_cells k_beginnings : ClassId) (sz : Nat) (x_height : Int32) (x_width : Int32) (x_imageHeight : Int32) (x_cells : Nat → Int64) (x_beginnings : Nat → Int32) (a_0 : Int32) (a_1 : Int32) (post : (Nat → Int64) → Prop) (hw : wp_RD_keepSmall x_height x_width x_imageHeight x_cells x_beginnings a_0 a_1 post) : Met l y_RD_keepSmall (zz_w y_RD_keepSmall b_RD_keepSmall 8 none) rm_RD_keepSmall (va_Pc [.ref q_this, .int a_0, .int a_1] (fun U => U.heap.size = sz ∧ va_P (dC, dI) zz_cl [(q_this, .inr (2, [.ref q_cells, .ref q_beginnings, .int x_height, .int x_width, .int x_imageHeight])), (q_cells, .inl (k_cells, 32, .inr (.inl x_cells))), (q_beginnings, .inl (k_beginnings, 4, .inl x_beginnings))] U.heap ∧ va_K (dC, dI) zz_cl [(k_cells, .long), (k_beginnings, .int)] U ∧ va_D (fun _ => True) [(q_this, .inr (2, [.ref q_cells, .ref q_beginnings, .int x_height, .int x_width, .int x_imageHeight])), (q_cells, .inl (k_cells, 32, .inr (.inl x_cells))), (q_beginnings, .inl (k_beginnings, 4, .inl x_beginnings))])) (qz_RD_keepSmall dC dI q_this q_cells q_beginnings k_cells k_beginnings x_height x_width x_imageHeight x_beginnings post (va_A [(q_this, .inr (2, [.ref q_cells, .ref q_beginnings, .int x_height, .int x_width, .int x_imageHeight])), (q_cells, .inl (k_cells, 32, .inr (.inl x_cells))), (q_beginnings, .inl (k_beginnings, 4, .inl x_beginnings))] sz)) 0 0 (va_A [(q_this, .inr (2, [.ref q_cells, .ref q_beginnings, .int x_height, .int x_width, .int x_imageHeight])), (q_cells, .inl (k_cells, 32, .inr (.inl x_cells))), (q_beginnings, .inl (k_beginnings, 4, .inl x_beginnings))] sz) := by
  refine Met.ofW (cc := b_RD_keepSmall) (maxL := 8) (ret := none) (by decide) rfl ?_
  intro p e s m args below meth c s₁ B hml hv
  obtain ⟨rfl, hsz, hP, hK, hD0⟩ := hv
  have hx := B.exec
  have hb := B.bytes
  have hr := B.returns
  have hts0 := atoms_spec (ws := (zz_w y_RD_keepSmall b_RD_keepSmall 8 none)) B.pre
  have hts : ∀ w ∈ zz_GW, w.before _ s = true := fun w h => hts0 w (List.mem_cons_of_mem _ h)
  clear hts0
  have hown : s.vm.findClass "StructureRows$Reduction" = some m.cls := findClass_of_methodNamed B.named
  have hlocks := B.notSynchronized
  have C0 : cx_RD_keepSmall p s m _ meth c := ⟨hx, hb, hr, hml, hown, hts, hlocks⟩
  subst hsz
  have hD := hD0.self (sz := s.heap.size)
  generalize hAe : va_A [(q_this, .inr (2, [.ref q_cells, .ref q_beginnings, .int x_height, .int x_width, .int x_imageHeight])), (q_cells, .inl (k_cells, 32, .inr (.inl x_cells))), (q_beginnings, .inl (k_beginnings, 4, .inl x_beginnings))] s.heap.size = A at hD ⊢
  have hA : ∀ q : Nat, s.heap.size ≤ q → A q := fun q h => by rw [← hAe]; exact Or.inr h
  clear hAe hD0
  have hS : va_S A s.heap s.heap [] := va_S.rf
  have hl := lv_entry ([.ref q_this, .int a_0, .int a_1]) (n := 8) (Nat.le_of_ble_eq_true rfl)
  rw [lg_entry_eq]
  generalize (lg_sl ([.ref q_this, .int a_0, .int a_1]) ++ List.replicate (8 - (lg_sl ([.ref q_this, .int a_0, .int a_1])).length) Slot.unset).toArray = ls at hl ⊢
  replace hl : lv_has ls 8 [(0, .ref q_this), (1, .int a_0), (2, .int a_1)] := hl
  unfold wp_RD_keepSmall at hw
  change W p l e rm_RD_keepSmall s m _ below meth c s.heap [] 0 0 _ _
  refine lv_iconst (v := 0) hx hb d_RD_keepSmall_0 (by decide) ?_
  refine lv_istore_n (lv' := [(3, .int 0), (0, .ref q_this), (1, .int a_0), (2, .int a_1)]) hx hb d_RD_keepSmall_1 rfl hl (by decide) rfl (fun ls hl => ?_)
  exact k_RD_keepSmall_2 C0 hA hK hw hP hD hS (lv_sub hl [1, 2, 3, 0] rfl)
set_option maxHeartbeats 4000000 in
set_option maxRecDepth 100000 in
theorem go_RD_keepSmall {p : Program} {l : Launch} {e : Env} {R : Room} {s : State} {m : MethodId} {args : Array Value} {below : List Frame} {meth : Method} {c : Code} {H : Heap} {locs : List Loc} {cells slots : Nat} {Q : State → Prop} {cc : ByteArray} {nL : Nat} {Ts : List Cond} {own : String} {index : Nat} {A0 : Nat → Prop} {H0 : Heap} {dC : Nat → ClassId} {dI : Nat → Nat → Nat} {ws wr : va_W} {tys : List (ClassId × FieldType)} {q_this q_cells q_beginnings : Nat} {k_cells k_beginnings : ClassId} {x_height : Int32} {x_width : Int32} {x_imageHeight : Int32} {x_cells : Nat → Int64} {x_beginnings : Nat → Int32} {a_0 : Int32} {a_1 : Int32} {post : (Nat → Int64) → Prop} (S : CallFix p m c cc nL s args Ts own) (cw : CallW R s args own "StructureRows$Reduction" index y_RD_keepSmall b_RD_keepSmall 8 none (zz_w y_RD_keepSmall b_RD_keepSmall 8 none) rm_RD_keepSmall 0 0 2) (hK : va_K (dC, dI) zz_cl tys s) (hP : va_P (dC, dI) zz_cl ws H) (hD : va_D A0 ws) (hS : va_S A0 H0 H locs) (hA : ∀ q, H0.size ≤ q → A0 q) (isC isR kt : List Nat) (h1 : isC.filterMap (fun i => ws[i]?) = [(q_this, .inr (2, [.ref q_cells, .ref q_beginnings, .int x_height, .int x_width, .int x_imageHeight])), (q_cells, .inl (k_cells, 32, .inr (.inl x_cells))), (q_beginnings, .inl (k_beginnings, 4, .inl x_beginnings))]) (h2 : isC.map (fun i => ws[i]?) = ([(q_this, .inr (2, [.ref q_cells, .ref q_beginnings, .int x_height, .int x_width, .int x_imageHeight])), (q_cells, .inl (k_cells, 32, .inr (.inl x_cells))), (q_beginnings, .inl (k_beginnings, 4, .inl x_beginnings))] : va_W).map some) (h3 : va_nd isC = true) (h4 : isR.map (fun i => ws[i]?) = wr.map some) (h5 : va_nd isR = true) (h6 : ∀ i ∈ isR, i ∉ isC) (h7 : kt.filterMap (fun i => tys[i]?) = [(k_cells, .long), (k_beginnings, .int)]) (hw : wp_RD_keepSmall x_height x_width x_imageHeight x_cells x_beginnings a_0 a_1 post) {pc : Nat} {ls : Array Slot} {rest : List Value} (hsize : ls.size = nL) (hrest : (rest.map fun v => v.category).sum ≤ 8) (hdg : decode cc pc = .ok (.invokevirtual index, 3)) (hf : cells + 0 ≤ R.cells ∧ slots + 0 ≤ R.slots) (kk : ∀ (m0 : Nat → Int64) (H1 : Heap) (locs1 : List Loc), post m0 → va_P (dC, dI) zz_cl (wr ++ [(q_this, .inr (2, [.ref q_cells, .ref q_beginnings, .int x_height, .int x_width, .int x_imageHeight])), (q_cells, .inl (k_cells, 32, .inr (.inl m0))), (q_beginnings, .inl (k_beginnings, 4, .inl x_beginnings))]) H1 → va_D A0 (wr ++ [(q_this, .inr (2, [.ref q_cells, .ref q_beginnings, .int x_height, .int x_width, .int x_imageHeight])), (q_cells, .inl (k_cells, 32, .inr (.inl m0))), (q_beginnings, .inl (k_beginnings, 4, .inl x_beginnings))]) → va_S A0 H0 H1 locs1 → W p l e R s m args below meth c H1 locs1 (cells + 0) (slots + 0) Q (F0 m (pc + 3) ls rest)) : W p l e R s m args below meth c H locs cells slots Q (F0 m pc ls (.int a_1 :: .int a_0 :: .ref q_this :: rest)) := by
  have hPc := hP.sub (ws' := [(q_this, .inr (2, [.ref q_cells, .ref q_beginnings, .int x_height, .int x_width, .int x_imageHeight])), (q_cells, .inl (k_cells, 32, .inr (.inl x_cells))), (q_beginnings, .inl (k_beginnings, 4, .inl x_beginnings))]) isC h1
  have hDc := hD.sub (ws' := [(q_this, .inr (2, [.ref q_cells, .ref q_beginnings, .int x_height, .int x_width, .int x_imageHeight])), (q_cells, .inl (k_cells, 32, .inr (.inl x_cells))), (q_beginnings, .inl (k_beginnings, 4, .inl x_beginnings))]) isC h3 h2
  have hKc := hK.sub (tys' := [(k_cells, .long), (k_beginnings, .int)]) kt h7
  have hFc := va_free (wc := [(q_this, .inr (2, [.ref q_cells, .ref q_beginnings, .int x_height, .int x_width, .int x_imageHeight])), (q_cells, .inl (k_cells, 32, .inr (.inl x_cells))), (q_beginnings, .inl (k_beginnings, 4, .inl x_beginnings))]) hD hS hA isC h2
  refine va_callv (va_runV (As := [.int a_0, .int a_1]) (rest := rest) S (c_RD_keepSmall l dC dI q_this q_cells q_beginnings k_cells k_beginnings H.size x_height x_width x_imageHeight x_cells x_beginnings a_0 a_1 post hw) cw ⟨zz_blind, va_recv hKc hPc (ci := 2) (q0 := 0) rfl rfl, fun U hU hW => ⟨rfl, by rw [hU], by rw [hU]; exact hPc, va_K.moved hW.alike hKc, hDc.weaken (fun _ _ _ _ => trivial)⟩⟩ rfl rfl hsize rfl (lv_room hrest) hdg hf) hS (fun q _ h => hFc q h) hFc (fun u t H1 locs ht hvm hw hB hz1 hk1 hS => ?_)
  obtain ⟨hP1, hK1, hD1⟩ := hB
  rw [ht] at hP1
  obtain ⟨hP2, hD2⟩ := va_join (wr := wr) (w1 := [(q_this, .inr (2, [.ref q_cells, .ref q_beginnings, .int x_height, .int x_width, .int x_imageHeight])), (q_cells, .inl (k_cells, 32, .inr (.inl u))), (q_beginnings, .inl (k_beginnings, 4, .inl x_beginnings))]) hP hD isC isR h2 h4 h5 h6 hk1 hFc hP1 hD1
  exact kk u H1 locs hw hP2 hD2 hS
abbrev rm_RD_takeIn : Room := { frames := 3, cells := 0, slots := 0, locals := 76 }
abbrev qz_RD_takeIn (dC : Nat → ClassId) (dI : Nat → Nat → Nat) (q_this q_cells q_beginnings : Nat) (k_cells k_beginnings : ClassId) (x_height : Int32) (x_width : Int32) (x_imageHeight : Int32) (post : (Nat → Int64) → (Nat → Int32) → Prop) (A : Nat → Prop) : Array Value → State → Outcome → State → Prop := va_Qv (fun (u : (Nat → Int64) × (Nat → Int32)) => post u.1 u.2) (fun (u : (Nat → Int64) × (Nat → Int32)) (t : State) => va_P (dC, dI) zz_cl [(q_this, .inr (2, [.ref q_cells, .ref q_beginnings, .int x_height, .int x_width, .int x_imageHeight])), (q_cells, .inl (k_cells, 32, .inr (.inl u.1))), (q_beginnings, .inl (k_beginnings, 4, .inl u.2))] t.heap ∧ va_K (dC, dI) zz_cl [(k_cells, .long), (k_beginnings, .int)] t ∧ va_D A [(q_this, .inr (2, [.ref q_cells, .ref q_beginnings, .int x_height, .int x_width, .int x_imageHeight])), (q_cells, .inl (k_cells, 32, .inr (.inl u.1))), (q_beginnings, .inl (k_beginnings, 4, .inl u.2))]) A
def cx_RD_takeIn (p : Program) (s : State) (m : MethodId) (args : Array Value) (meth : Method) (c : Code) : Prop := p.tables.exec = Jvm.exec ∧ c.code = b_RD_takeIn ∧ meth.sig.returnType = none ∧ c.maxLocals = 5 ∧ s.vm.findClass "StructureRows$Reduction" = some m.cls ∧ (∀ w ∈ zz_GW, w.before args s = true) ∧ meth.locks = false
def wp_RD_takeIn_106 (x_height : Int32) (x_width : Int32) (x_imageHeight : Int32) (x_beginnings : Nat → Int32) (u_1 : Int32) (post : (Nat → Int64) → (Nat → Int32) → Prop) (K_4 : (Nat → Int64) → Int32 → Int32 → Prop) (x_cells : Nat → Int64) (u_2 : Int32) (u_3 : Int32) : Prop := ∀ v_8 : Int32, v_8 = u_3 + 1 → (K_4 x_cells u_2 v_8)
set_option maxHeartbeats 4000000 in
set_option maxRecDepth 100000 in
theorem k_RD_takeIn_106 {p : Program} {l : Launch} {e : Env} {s : State} {m : MethodId} {args : Array Value} {below : List Frame} {meth : Method} {c : Code} {dC : Nat → ClassId} {dI : Nat → Nat → Nat} {A : Nat → Prop} {q_this q_cells q_beginnings : Nat} {k_cells k_beginnings : ClassId} {x_height : Int32} {x_width : Int32} {x_imageHeight : Int32} {x_beginnings : Nat → Int32} {u_1 : Int32} {post : (Nat → Int64) → (Nat → Int32) → Prop} {K_4 : (Nat → Int64) → Int32 → Int32 → Prop} (C0 : cx_RD_takeIn p s m args meth c) (hA : ∀ q : Nat, s.heap.size ≤ q → A q) (hK : va_K (dC, dI) zz_cl [(k_cells, .long), (k_beginnings, .int)] s) (hg_4 : ∀ (x_cells : Nat → Int64) (u_2 : Int32) (u_3 : Int32) (H : Heap) (locs : List Loc) (ls : Array Slot), K_4 x_cells u_2 u_3 → va_P (dC, dI) zz_cl [(q_this, .inr (2, [.ref q_cells, .ref q_beginnings, .int x_height, .int x_width, .int x_imageHeight])), (q_cells, .inl (k_cells, 32, .inr (.inl x_cells))), (q_beginnings, .inl (k_beginnings, 4, .inl x_beginnings))] H → va_D A [(q_this, .inr (2, [.ref q_cells, .ref q_beginnings, .int x_height, .int x_width, .int x_imageHeight])), (q_cells, .inl (k_cells, 32, .inr (.inl x_cells))), (q_beginnings, .inl (k_beginnings, 4, .inl x_beginnings))] → va_S A s.heap H locs → lv_has ls 5 [(0, .ref q_this), (1, .int u_1), (2, .int u_2), (3, .int u_3)] → W p l e rm_RD_takeIn s m args below meth c H locs 0 0 (MQ below (qz_RD_takeIn dC dI q_this q_cells q_beginnings k_cells k_beginnings x_height x_width x_imageHeight post A) args s 0 0 A) (F0 m 4 ls [])) {x_cells : Nat → Int64} {u_2 : Int32} {u_3 : Int32} (hw : wp_RD_takeIn_106 x_height x_width x_imageHeight x_beginnings u_1 post K_4 x_cells u_2 u_3) {H : Heap} {locs : List Loc} {ls : Array Slot} (hP : va_P (dC, dI) zz_cl [(q_this, .inr (2, [.ref q_cells, .ref q_beginnings, .int x_height, .int x_width, .int x_imageHeight])), (q_cells, .inl (k_cells, 32, .inr (.inl x_cells))), (q_beginnings, .inl (k_beginnings, 4, .inl x_beginnings))] H) (hD : va_D A [(q_this, .inr (2, [.ref q_cells, .ref q_beginnings, .int x_height, .int x_width, .int x_imageHeight])), (q_cells, .inl (k_cells, 32, .inr (.inl x_cells))), (q_beginnings, .inl (k_beginnings, 4, .inl x_beginnings))]) (hS : va_S A s.heap H locs) (hl : lv_has ls 5 [(0, .ref q_this), (1, .int u_1), (2, .int u_2), (3, .int u_3)]) : W p l e rm_RD_takeIn s m args below meth c H locs 0 0 (MQ below (qz_RD_takeIn dC dI q_this q_cells q_beginnings k_cells k_beginnings x_height x_width x_imageHeight post A) args s 0 0 A) (F0 m 106 ls []) := by
  have C1 := C0
  obtain ⟨hx, hb, hr, hml, hown, hts, hlocks⟩ := C1
  unfold wp_RD_takeIn_106 at hw
  obtain ⟨v_8, ev_8⟩ : ∃ y : Int32, y = u_3 + 1 := ⟨_, rfl⟩
  replace hw := hw v_8 ev_8
  refine lv_iinc (v := v_8) (lv' := [(3, .int v_8), (0, .ref q_this), (1, .int u_1), (2, .int u_2)]) hx hb d_RD_takeIn_106 hl (k := 3) rfl (by rw [ev_8]; rfl) (by decide) rfl (fun ls hl => ?_)
  refine lv_goto (tgt := 4) hx hb d_RD_takeIn_109 (by decide) ?_
  exact hg_4 x_cells u_2 v_8 H locs ls hw hP hD hS (lv_sub hl [1, 2, 3, 0] rfl)
def wp_RD_takeIn_98 (x_height : Int32) (x_width : Int32) (x_imageHeight : Int32) (x_beginnings : Nat → Int32) (u_1 : Int32) (post : (Nat → Int64) → (Nat → Int32) → Prop) (K_4 : (Nat → Int64) → Int32 → Int32 → Prop) (x_cells : Nat → Int64) (u_2 : Int32) (u_3 : Int32) (u_4 : Int32) : Prop := (u_4 = 0 → (wp_RD_takeIn_106 x_height x_width x_imageHeight x_beginnings u_1 post K_4 x_cells u_2 u_3)) ∧ (¬ u_4 = 0 → (∀ v_9 : Int32, v_9 = u_2 + 1 → (wp_RD_takeIn_106 x_height x_width x_imageHeight x_beginnings u_1 post K_4 x_cells v_9 u_3)))
set_option maxHeartbeats 4000000 in
set_option maxRecDepth 100000 in
theorem k_RD_takeIn_98 {p : Program} {l : Launch} {e : Env} {s : State} {m : MethodId} {args : Array Value} {below : List Frame} {meth : Method} {c : Code} {dC : Nat → ClassId} {dI : Nat → Nat → Nat} {A : Nat → Prop} {q_this q_cells q_beginnings : Nat} {k_cells k_beginnings : ClassId} {x_height : Int32} {x_width : Int32} {x_imageHeight : Int32} {x_beginnings : Nat → Int32} {u_1 : Int32} {post : (Nat → Int64) → (Nat → Int32) → Prop} {K_4 : (Nat → Int64) → Int32 → Int32 → Prop} (C0 : cx_RD_takeIn p s m args meth c) (hA : ∀ q : Nat, s.heap.size ≤ q → A q) (hK : va_K (dC, dI) zz_cl [(k_cells, .long), (k_beginnings, .int)] s) (hg_4 : ∀ (x_cells : Nat → Int64) (u_2 : Int32) (u_3 : Int32) (H : Heap) (locs : List Loc) (ls : Array Slot), K_4 x_cells u_2 u_3 → va_P (dC, dI) zz_cl [(q_this, .inr (2, [.ref q_cells, .ref q_beginnings, .int x_height, .int x_width, .int x_imageHeight])), (q_cells, .inl (k_cells, 32, .inr (.inl x_cells))), (q_beginnings, .inl (k_beginnings, 4, .inl x_beginnings))] H → va_D A [(q_this, .inr (2, [.ref q_cells, .ref q_beginnings, .int x_height, .int x_width, .int x_imageHeight])), (q_cells, .inl (k_cells, 32, .inr (.inl x_cells))), (q_beginnings, .inl (k_beginnings, 4, .inl x_beginnings))] → va_S A s.heap H locs → lv_has ls 5 [(0, .ref q_this), (1, .int u_1), (2, .int u_2), (3, .int u_3)] → W p l e rm_RD_takeIn s m args below meth c H locs 0 0 (MQ below (qz_RD_takeIn dC dI q_this q_cells q_beginnings k_cells k_beginnings x_height x_width x_imageHeight post A) args s 0 0 A) (F0 m 4 ls [])) {x_cells : Nat → Int64} {u_2 : Int32} {u_3 : Int32} {u_4 : Int32} (hw : wp_RD_takeIn_98 x_height x_width x_imageHeight x_beginnings u_1 post K_4 x_cells u_2 u_3 u_4) {H : Heap} {locs : List Loc} {ls : Array Slot} (hP : va_P (dC, dI) zz_cl [(q_this, .inr (2, [.ref q_cells, .ref q_beginnings, .int x_height, .int x_width, .int x_imageHeight])), (q_cells, .inl (k_cells, 32, .inr (.inl x_cells))), (q_beginnings, .inl (k_beginnings, 4, .inl x_beginnings))] H) (hD : va_D A [(q_this, .inr (2, [.ref q_cells, .ref q_beginnings, .int x_height, .int x_width, .int x_imageHeight])), (q_cells, .inl (k_cells, 32, .inr (.inl x_cells))), (q_beginnings, .inl (k_beginnings, 4, .inl x_beginnings))]) (hS : va_S A s.heap H locs) (hl : lv_has ls 5 [(0, .ref q_this), (1, .int u_1), (2, .int u_2), (3, .int u_3), (4, .int u_4)]) : W p l e rm_RD_takeIn s m args below meth c H locs 0 0 (MQ below (qz_RD_takeIn dC dI q_this q_cells q_beginnings k_cells k_beginnings x_height x_width x_imageHeight post A) args s 0 0 A) (F0 m 98 ls []) := by
  have C1 := C0
  obtain ⟨hx, hb, hr, hml, hown, hts, hlocks⟩ := C1
  unfold wp_RD_takeIn_98 at hw
  refine lv_iload hx hb d_RD_takeIn_98 (lv_at hl 4 rfl) ?_
  refine lv_if_eq (tgt := 106) hx hb d_RD_takeIn_100 (by decide) (fun h_7 => ?_) (fun h_7 => ?_)
  · replace hw := hw.1 h_7
    exact k_RD_takeIn_106 C0 hA hK hg_4 hw hP hD hS (lv_sub hl [0, 1, 2, 3] rfl)
  · replace hw := hw.2 h_7
    obtain ⟨v_9, ev_9⟩ : ∃ y : Int32, y = u_2 + 1 := ⟨_, rfl⟩
    replace hw := hw v_9 ev_9
    refine lv_iinc (v := v_9) (lv' := [(2, .int v_9), (0, .ref q_this), (1, .int u_1), (3, .int u_3), (4, .int u_4)]) hx hb d_RD_takeIn_103 hl (k := 2) rfl (by rw [ev_9]; rfl) (by decide) rfl (fun ls hl => ?_)
    exact k_RD_takeIn_106 C0 hA hK hg_4 hw hP hD hS (lv_sub hl [1, 2, 0, 3] rfl)
def wp_RD_takeIn_71 (x_height : Int32) (x_width : Int32) (x_imageHeight : Int32) (x_beginnings : Nat → Int32) (u_1 : Int32) (post : (Nat → Int64) → (Nat → Int32) → Prop) (K_4 : (Nat → Int64) → Int32 → Int32 → Prop) (x_cells : Nat → Int64) (u_2 : Int32) (u_3 : Int32) (u_4 : Int32) : Prop := wp_RD_cell x_height x_width x_imageHeight x_cells u_1 u_3 (fun (r_5 : Int64) => (((lg_cmp r_5 0) = 0 → (wp_RD_takeIn_98 x_height x_width x_imageHeight x_beginnings u_1 post K_4 x_cells u_2 u_3 u_4)) ∧ (¬ (lg_cmp r_5 0) = 0 → (wp_RD_moveAhead x_height x_width x_imageHeight x_cells x_beginnings u_1 u_2 u_3 (fun (m_10 : Nat → Int64) (m_11 : Nat → Int32) => (wp_RD_keepSmall x_height x_width x_imageHeight m_10 m_11 (u_1 + 1) u_1 (fun (m_12 : Nat → Int64) => (post m_12 m_11))))))))
set_option maxHeartbeats 4000000 in
set_option maxRecDepth 100000 in
theorem k_RD_takeIn_71 {p : Program} {l : Launch} {e : Env} {s : State} {m : MethodId} {args : Array Value} {below : List Frame} {meth : Method} {c : Code} {dC : Nat → ClassId} {dI : Nat → Nat → Nat} {A : Nat → Prop} {q_this q_cells q_beginnings : Nat} {k_cells k_beginnings : ClassId} {x_height : Int32} {x_width : Int32} {x_imageHeight : Int32} {x_beginnings : Nat → Int32} {u_1 : Int32} {post : (Nat → Int64) → (Nat → Int32) → Prop} {K_4 : (Nat → Int64) → Int32 → Int32 → Prop} (C0 : cx_RD_takeIn p s m args meth c) (hA : ∀ q : Nat, s.heap.size ≤ q → A q) (hK : va_K (dC, dI) zz_cl [(k_cells, .long), (k_beginnings, .int)] s) (hg_4 : ∀ (x_cells : Nat → Int64) (u_2 : Int32) (u_3 : Int32) (H : Heap) (locs : List Loc) (ls : Array Slot), K_4 x_cells u_2 u_3 → va_P (dC, dI) zz_cl [(q_this, .inr (2, [.ref q_cells, .ref q_beginnings, .int x_height, .int x_width, .int x_imageHeight])), (q_cells, .inl (k_cells, 32, .inr (.inl x_cells))), (q_beginnings, .inl (k_beginnings, 4, .inl x_beginnings))] H → va_D A [(q_this, .inr (2, [.ref q_cells, .ref q_beginnings, .int x_height, .int x_width, .int x_imageHeight])), (q_cells, .inl (k_cells, 32, .inr (.inl x_cells))), (q_beginnings, .inl (k_beginnings, 4, .inl x_beginnings))] → va_S A s.heap H locs → lv_has ls 5 [(0, .ref q_this), (1, .int u_1), (2, .int u_2), (3, .int u_3)] → W p l e rm_RD_takeIn s m args below meth c H locs 0 0 (MQ below (qz_RD_takeIn dC dI q_this q_cells q_beginnings k_cells k_beginnings x_height x_width x_imageHeight post A) args s 0 0 A) (F0 m 4 ls [])) {x_cells : Nat → Int64} {u_2 : Int32} {u_3 : Int32} {u_4 : Int32} (hw : wp_RD_takeIn_71 x_height x_width x_imageHeight x_beginnings u_1 post K_4 x_cells u_2 u_3 u_4) {H : Heap} {locs : List Loc} {ls : Array Slot} (hP : va_P (dC, dI) zz_cl [(q_this, .inr (2, [.ref q_cells, .ref q_beginnings, .int x_height, .int x_width, .int x_imageHeight])), (q_cells, .inl (k_cells, 32, .inr (.inl x_cells))), (q_beginnings, .inl (k_beginnings, 4, .inl x_beginnings))] H) (hD : va_D A [(q_this, .inr (2, [.ref q_cells, .ref q_beginnings, .int x_height, .int x_width, .int x_imageHeight])), (q_cells, .inl (k_cells, 32, .inr (.inl x_cells))), (q_beginnings, .inl (k_beginnings, 4, .inl x_beginnings))]) (hS : va_S A s.heap H locs) (hl : lv_has ls 5 [(0, .ref q_this), (1, .int u_1), (2, .int u_2), (3, .int u_3), (4, .int u_4)]) : W p l e rm_RD_takeIn s m args below meth c H locs 0 0 (MQ below (qz_RD_takeIn dC dI q_this q_cells q_beginnings k_cells k_beginnings x_height x_width x_imageHeight post A) args s 0 0 A) (F0 m 71 ls []) := by
  have C1 := C0
  obtain ⟨hx, hb, hr, hml, hown, hts, hlocks⟩ := C1
  unfold wp_RD_takeIn_71 at hw
  refine lv_aload_n hx hb d_RD_takeIn_71 rfl (lv_at hl 0 rfl) ?_
  refine lv_iload_n hx hb d_RD_takeIn_72 rfl (lv_at hl 1 rfl) ?_
  refine lv_iload_n hx hb d_RD_takeIn_73 rfl (lv_at hl 3 rfl) ?_
  refine go_RD_cell (wr := [(q_beginnings, .inl (k_beginnings, 4, .inl x_beginnings))]) ⟨hx, hb, hml, hown, hts⟩ (zz_cwV 2 hts tw_164 tw_161 tw_163 tw_2 tw_32 ⟨by decide, by decide, by decide +kernel⟩ ⟨Nat.le_of_ble_eq_true rfl, Nat.le_of_ble_eq_true rfl⟩) hK hP hD hS hA [0, 1] [2] [0] rfl rfl (by decide) rfl (by decide) (by decide) rfl hw hl.1 (Nat.le_of_ble_eq_true rfl) d_RD_takeIn_74 ⟨Nat.le_of_ble_eq_true rfl, Nat.le_of_ble_eq_true rfl⟩ (fun r_5 H locs hw hP hD hS => ?_)
  replace hP : va_P (dC, dI) zz_cl [(q_beginnings, .inl (k_beginnings, 4, .inl x_beginnings)), (q_this, .inr (2, [.ref q_cells, .ref q_beginnings, .int x_height, .int x_width, .int x_imageHeight])), (q_cells, .inl (k_cells, 32, .inr (.inl x_cells)))] H := hP
  replace hD : va_D A [(q_beginnings, .inl (k_beginnings, 4, .inl x_beginnings)), (q_this, .inr (2, [.ref q_cells, .ref q_beginnings, .int x_height, .int x_width, .int x_imageHeight])), (q_cells, .inl (k_cells, 32, .inr (.inl x_cells)))] := hD
  refine lv_lconst (v := 0) hx hb d_RD_takeIn_77 (by decide) ?_
  refine W.lcmp hx hb d_RD_takeIn_78 ?_
  refine lv_if_eq (tgt := 98) hx hb d_RD_takeIn_79 (by decide) (fun h_6 => ?_) (fun h_6 => ?_)
  · replace hw := hw.1 h_6
    exact k_RD_takeIn_98 C0 hA hK hg_4 hw (hP.sub [1, 2, 0] rfl) (hD.sub [1, 2, 0] (by decide) rfl) hS hl
  · replace hw := hw.2 h_6
    refine lv_aload_n hx hb d_RD_takeIn_82 rfl (lv_at hl 0 rfl) ?_
    refine lv_iload_n hx hb d_RD_takeIn_83 rfl (lv_at hl 1 rfl) ?_
    refine lv_iload_n hx hb d_RD_takeIn_84 rfl (lv_at hl 2 rfl) ?_
    refine lv_iload_n hx hb d_RD_takeIn_85 rfl (lv_at hl 3 rfl) ?_
    refine go_RD_moveAhead (wr := []) ⟨hx, hb, hml, hown, hts⟩ (zz_cwV 3 hts tw_191 tw_188 tw_190 tw_8 tw_32 ⟨by decide, by decide, by decide +kernel⟩ ⟨Nat.le_of_ble_eq_true rfl, Nat.le_of_ble_eq_true rfl⟩) hK hP hD hS hA [1, 2, 0] [] [0, 1] rfl rfl (by decide) rfl (by decide) (by decide) rfl hw hl.1 (Nat.le_of_ble_eq_true rfl) d_RD_takeIn_86 ⟨Nat.le_of_ble_eq_true rfl, Nat.le_of_ble_eq_true rfl⟩ (fun m_10 m_11 H locs hw hP hD hS => ?_)
    replace hP : va_P (dC, dI) zz_cl [(q_this, .inr (2, [.ref q_cells, .ref q_beginnings, .int x_height, .int x_width, .int x_imageHeight])), (q_cells, .inl (k_cells, 32, .inr (.inl m_10))), (q_beginnings, .inl (k_beginnings, 4, .inl m_11))] H := hP
    replace hD : va_D A [(q_this, .inr (2, [.ref q_cells, .ref q_beginnings, .int x_height, .int x_width, .int x_imageHeight])), (q_cells, .inl (k_cells, 32, .inr (.inl m_10))), (q_beginnings, .inl (k_beginnings, 4, .inl m_11))] := hD
    refine lv_aload_n hx hb d_RD_takeIn_89 rfl (lv_at hl 0 rfl) ?_
    refine lv_iload_n hx hb d_RD_takeIn_90 rfl (lv_at hl 1 rfl) ?_
    refine lv_iconst (v := 1) hx hb d_RD_takeIn_91 (by decide) ?_
    refine lv_iadd hx hb d_RD_takeIn_92 ?_
    refine lv_iload_n hx hb d_RD_takeIn_93 rfl (lv_at hl 1 rfl) ?_
    refine go_RD_keepSmall (wr := []) ⟨hx, hb, hml, hown, hts⟩ (zz_cwV 2 hts tw_184 tw_181 tw_183 tw_7 tw_32 ⟨by decide, by decide, by decide +kernel⟩ ⟨Nat.le_of_ble_eq_true rfl, Nat.le_of_ble_eq_true rfl⟩) hK hP hD hS hA [0, 1, 2] [] [0, 1] rfl rfl (by decide) rfl (by decide) (by decide) rfl hw hl.1 (Nat.le_of_ble_eq_true rfl) d_RD_takeIn_94 ⟨Nat.le_of_ble_eq_true rfl, Nat.le_of_ble_eq_true rfl⟩ (fun m_12 H locs hw hP hD hS => ?_)
    replace hP : va_P (dC, dI) zz_cl [(q_this, .inr (2, [.ref q_cells, .ref q_beginnings, .int x_height, .int x_width, .int x_imageHeight])), (q_cells, .inl (k_cells, 32, .inr (.inl m_12))), (q_beginnings, .inl (k_beginnings, 4, .inl m_11))] H := hP
    replace hD : va_D A [(q_this, .inr (2, [.ref q_cells, .ref q_beginnings, .int x_height, .int x_width, .int x_imageHeight])), (q_cells, .inl (k_cells, 32, .inr (.inl m_12))), (q_beginnings, .inl (k_beginnings, 4, .inl m_11))] := hD
    exact W.vret hx hb hr (fun t ht hW => ⟨⟨(m_12, m_11), rfl, hw, by rw [ht]; exact hP, va_K.moved hW.alike hK, hD⟩, hS.F ht⟩) hS.2.2 d_RD_takeIn_97
def wp_RD_takeIn_37 (x_height : Int32) (x_width : Int32) (x_imageHeight : Int32) (x_beginnings : Nat → Int32) (u_1 : Int32) (post : (Nat → Int64) → (Nat → Int32) → Prop) (K_4 : (Nat → Int64) → Int32 → Int32 → Prop) (x_cells : Nat → Int64) (u_2 : Int32) (u_3 : Int32) (t_0 : Int32) : Prop := wp_RD_cell x_height x_width x_imageHeight x_cells u_1 u_3 (fun (r_3 : Int64) => (((lg_cmp r_3 0) = 0 → (wp_RD_takeIn_71 x_height x_width x_imageHeight x_beginnings u_1 post K_4 x_cells u_2 u_3 t_0)) ∧ (¬ (lg_cmp r_3 0) = 0 → ((t_0 = 0 → (wp_RD_takeIn_71 x_height x_width x_imageHeight x_beginnings u_1 post K_4 x_cells u_2 u_3 t_0)) ∧ (¬ t_0 = 0 → (wp_RD_clearNewest x_height x_width x_imageHeight x_cells u_2 u_1 u_3 (fun (m_14 : Nat → Int64) => (wp_RD_keepSmall x_height x_width x_imageHeight m_14 x_beginnings u_1 u_1 (fun (m_15 : Nat → Int64) => (wp_RD_takeIn_98 x_height x_width x_imageHeight x_beginnings u_1 post K_4 m_15 u_2 u_3 t_0))))))))))
set_option maxHeartbeats 4000000 in
set_option maxRecDepth 100000 in
theorem k_RD_takeIn_37 {p : Program} {l : Launch} {e : Env} {s : State} {m : MethodId} {args : Array Value} {below : List Frame} {meth : Method} {c : Code} {dC : Nat → ClassId} {dI : Nat → Nat → Nat} {A : Nat → Prop} {q_this q_cells q_beginnings : Nat} {k_cells k_beginnings : ClassId} {x_height : Int32} {x_width : Int32} {x_imageHeight : Int32} {x_beginnings : Nat → Int32} {u_1 : Int32} {post : (Nat → Int64) → (Nat → Int32) → Prop} {K_4 : (Nat → Int64) → Int32 → Int32 → Prop} (C0 : cx_RD_takeIn p s m args meth c) (hA : ∀ q : Nat, s.heap.size ≤ q → A q) (hK : va_K (dC, dI) zz_cl [(k_cells, .long), (k_beginnings, .int)] s) (hg_4 : ∀ (x_cells : Nat → Int64) (u_2 : Int32) (u_3 : Int32) (H : Heap) (locs : List Loc) (ls : Array Slot), K_4 x_cells u_2 u_3 → va_P (dC, dI) zz_cl [(q_this, .inr (2, [.ref q_cells, .ref q_beginnings, .int x_height, .int x_width, .int x_imageHeight])), (q_cells, .inl (k_cells, 32, .inr (.inl x_cells))), (q_beginnings, .inl (k_beginnings, 4, .inl x_beginnings))] H → va_D A [(q_this, .inr (2, [.ref q_cells, .ref q_beginnings, .int x_height, .int x_width, .int x_imageHeight])), (q_cells, .inl (k_cells, 32, .inr (.inl x_cells))), (q_beginnings, .inl (k_beginnings, 4, .inl x_beginnings))] → va_S A s.heap H locs → lv_has ls 5 [(0, .ref q_this), (1, .int u_1), (2, .int u_2), (3, .int u_3)] → W p l e rm_RD_takeIn s m args below meth c H locs 0 0 (MQ below (qz_RD_takeIn dC dI q_this q_cells q_beginnings k_cells k_beginnings x_height x_width x_imageHeight post A) args s 0 0 A) (F0 m 4 ls [])) {x_cells : Nat → Int64} {u_2 : Int32} {u_3 : Int32} {t_0 : Int32} (hw : wp_RD_takeIn_37 x_height x_width x_imageHeight x_beginnings u_1 post K_4 x_cells u_2 u_3 t_0) {H : Heap} {locs : List Loc} {ls : Array Slot} (hP : va_P (dC, dI) zz_cl [(q_this, .inr (2, [.ref q_cells, .ref q_beginnings, .int x_height, .int x_width, .int x_imageHeight])), (q_cells, .inl (k_cells, 32, .inr (.inl x_cells))), (q_beginnings, .inl (k_beginnings, 4, .inl x_beginnings))] H) (hD : va_D A [(q_this, .inr (2, [.ref q_cells, .ref q_beginnings, .int x_height, .int x_width, .int x_imageHeight])), (q_cells, .inl (k_cells, 32, .inr (.inl x_cells))), (q_beginnings, .inl (k_beginnings, 4, .inl x_beginnings))]) (hS : va_S A s.heap H locs) (hl : lv_has ls 5 [(0, .ref q_this), (1, .int u_1), (2, .int u_2), (3, .int u_3)]) : W p l e rm_RD_takeIn s m args below meth c H locs 0 0 (MQ below (qz_RD_takeIn dC dI q_this q_cells q_beginnings k_cells k_beginnings x_height x_width x_imageHeight post A) args s 0 0 A) (F0 m 37 ls [.int t_0]) := by
  have C1 := C0
  obtain ⟨hx, hb, hr, hml, hown, hts, hlocks⟩ := C1
  unfold wp_RD_takeIn_37 at hw
  refine lv_istore (lv' := [(4, .int t_0), (0, .ref q_this), (1, .int u_1), (2, .int u_2), (3, .int u_3)]) hx hb d_RD_takeIn_37 hl (by decide) rfl (fun ls hl => ?_)
  refine lv_aload_n hx hb d_RD_takeIn_39 rfl (lv_at hl 1 rfl) ?_
  refine lv_iload_n hx hb d_RD_takeIn_40 rfl (lv_at hl 2 rfl) ?_
  refine lv_iload_n hx hb d_RD_takeIn_41 rfl (lv_at hl 4 rfl) ?_
  refine go_RD_cell (wr := [(q_beginnings, .inl (k_beginnings, 4, .inl x_beginnings))]) ⟨hx, hb, hml, hown, hts⟩ (zz_cwV 2 hts tw_164 tw_161 tw_163 tw_2 tw_32 ⟨by decide, by decide, by decide +kernel⟩ ⟨Nat.le_of_ble_eq_true rfl, Nat.le_of_ble_eq_true rfl⟩) hK hP hD hS hA [0, 1] [2] [0] rfl rfl (by decide) rfl (by decide) (by decide) rfl hw hl.1 (Nat.le_of_ble_eq_true rfl) d_RD_takeIn_42 ⟨Nat.le_of_ble_eq_true rfl, Nat.le_of_ble_eq_true rfl⟩ (fun r_3 H locs hw hP hD hS => ?_)
  replace hP : va_P (dC, dI) zz_cl [(q_beginnings, .inl (k_beginnings, 4, .inl x_beginnings)), (q_this, .inr (2, [.ref q_cells, .ref q_beginnings, .int x_height, .int x_width, .int x_imageHeight])), (q_cells, .inl (k_cells, 32, .inr (.inl x_cells)))] H := hP
  replace hD : va_D A [(q_beginnings, .inl (k_beginnings, 4, .inl x_beginnings)), (q_this, .inr (2, [.ref q_cells, .ref q_beginnings, .int x_height, .int x_width, .int x_imageHeight])), (q_cells, .inl (k_cells, 32, .inr (.inl x_cells)))] := hD
  refine lv_lconst (v := 0) hx hb d_RD_takeIn_45 (by decide) ?_
  refine W.lcmp hx hb d_RD_takeIn_46 ?_
  refine lv_if_eq (tgt := 71) hx hb d_RD_takeIn_47 (by decide) (fun h_4 => ?_) (fun h_4 => ?_)
  · replace hw := hw.1 h_4
    exact k_RD_takeIn_71 C0 hA hK hg_4 hw (hP.sub [1, 2, 0] rfl) (hD.sub [1, 2, 0] (by decide) rfl) hS (lv_sub hl [1, 2, 3, 4, 0] rfl)
  · replace hw := hw.2 h_4
    refine lv_iload hx hb d_RD_takeIn_50 (lv_at hl 0 rfl) ?_
    refine lv_if_eq (tgt := 71) hx hb d_RD_takeIn_52 (by decide) (fun h_13 => ?_) (fun h_13 => ?_)
    · replace hw := hw.1 h_13
      exact k_RD_takeIn_71 C0 hA hK hg_4 hw (hP.sub [1, 2, 0] rfl) (hD.sub [1, 2, 0] (by decide) rfl) hS (lv_sub hl [1, 2, 3, 4, 0] rfl)
    · replace hw := hw.2 h_13
      refine lv_aload_n hx hb d_RD_takeIn_55 rfl (lv_at hl 1 rfl) ?_
      refine lv_iload_n hx hb d_RD_takeIn_56 rfl (lv_at hl 3 rfl) ?_
      refine lv_iload_n hx hb d_RD_takeIn_57 rfl (lv_at hl 2 rfl) ?_
      refine lv_iload_n hx hb d_RD_takeIn_58 rfl (lv_at hl 4 rfl) ?_
      refine go_RD_clearNewest (wr := [(q_beginnings, .inl (k_beginnings, 4, .inl x_beginnings))]) ⟨hx, hb, hml, hown, hts⟩ (zz_cwV 3 hts tw_168 tw_165 tw_167 tw_3 tw_32 ⟨by decide, by decide, by decide +kernel⟩ ⟨Nat.le_of_ble_eq_true rfl, Nat.le_of_ble_eq_true rfl⟩) hK hP hD hS hA [1, 2] [0] [0] rfl rfl (by decide) rfl (by decide) (by decide) rfl hw hl.1 (Nat.le_of_ble_eq_true rfl) d_RD_takeIn_59 ⟨Nat.le_of_ble_eq_true rfl, Nat.le_of_ble_eq_true rfl⟩ (fun m_14 H locs hw hP hD hS => ?_)
      replace hP : va_P (dC, dI) zz_cl [(q_beginnings, .inl (k_beginnings, 4, .inl x_beginnings)), (q_this, .inr (2, [.ref q_cells, .ref q_beginnings, .int x_height, .int x_width, .int x_imageHeight])), (q_cells, .inl (k_cells, 32, .inr (.inl m_14)))] H := hP
      replace hD : va_D A [(q_beginnings, .inl (k_beginnings, 4, .inl x_beginnings)), (q_this, .inr (2, [.ref q_cells, .ref q_beginnings, .int x_height, .int x_width, .int x_imageHeight])), (q_cells, .inl (k_cells, 32, .inr (.inl m_14)))] := hD
      refine lv_aload_n hx hb d_RD_takeIn_62 rfl (lv_at hl 1 rfl) ?_
      refine lv_iload_n hx hb d_RD_takeIn_63 rfl (lv_at hl 2 rfl) ?_
      refine lv_iload_n hx hb d_RD_takeIn_64 rfl (lv_at hl 2 rfl) ?_
      refine go_RD_keepSmall (wr := []) ⟨hx, hb, hml, hown, hts⟩ (zz_cwV 2 hts tw_184 tw_181 tw_183 tw_7 tw_32 ⟨by decide, by decide, by decide +kernel⟩ ⟨Nat.le_of_ble_eq_true rfl, Nat.le_of_ble_eq_true rfl⟩) hK hP hD hS hA [1, 2, 0] [] [0, 1] rfl rfl (by decide) rfl (by decide) (by decide) rfl hw hl.1 (Nat.le_of_ble_eq_true rfl) d_RD_takeIn_65 ⟨Nat.le_of_ble_eq_true rfl, Nat.le_of_ble_eq_true rfl⟩ (fun m_15 H locs hw hP hD hS => ?_)
      replace hP : va_P (dC, dI) zz_cl [(q_this, .inr (2, [.ref q_cells, .ref q_beginnings, .int x_height, .int x_width, .int x_imageHeight])), (q_cells, .inl (k_cells, 32, .inr (.inl m_15))), (q_beginnings, .inl (k_beginnings, 4, .inl x_beginnings))] H := hP
      replace hD : va_D A [(q_this, .inr (2, [.ref q_cells, .ref q_beginnings, .int x_height, .int x_width, .int x_imageHeight])), (q_cells, .inl (k_cells, 32, .inr (.inl m_15))), (q_beginnings, .inl (k_beginnings, 4, .inl x_beginnings))] := hD
      refine lv_goto (tgt := 98) hx hb d_RD_takeIn_68 (by decide) ?_
      exact k_RD_takeIn_98 C0 hA hK hg_4 hw hP hD hS (lv_sub hl [1, 2, 3, 4, 0] rfl)
def wp_RD_takeIn_36 (x_height : Int32) (x_width : Int32) (x_imageHeight : Int32) (x_beginnings : Nat → Int32) (u_1 : Int32) (post : (Nat → Int64) → (Nat → Int32) → Prop) (K_4 : (Nat → Int64) → Int32 → Int32 → Prop) (x_cells : Nat → Int64) (u_2 : Int32) (u_3 : Int32) : Prop := wp_RD_takeIn_37 x_height x_width x_imageHeight x_beginnings u_1 post K_4 x_cells u_2 u_3 0
set_option maxHeartbeats 4000000 in
set_option maxRecDepth 100000 in
theorem k_RD_takeIn_36 {p : Program} {l : Launch} {e : Env} {s : State} {m : MethodId} {args : Array Value} {below : List Frame} {meth : Method} {c : Code} {dC : Nat → ClassId} {dI : Nat → Nat → Nat} {A : Nat → Prop} {q_this q_cells q_beginnings : Nat} {k_cells k_beginnings : ClassId} {x_height : Int32} {x_width : Int32} {x_imageHeight : Int32} {x_beginnings : Nat → Int32} {u_1 : Int32} {post : (Nat → Int64) → (Nat → Int32) → Prop} {K_4 : (Nat → Int64) → Int32 → Int32 → Prop} (C0 : cx_RD_takeIn p s m args meth c) (hA : ∀ q : Nat, s.heap.size ≤ q → A q) (hK : va_K (dC, dI) zz_cl [(k_cells, .long), (k_beginnings, .int)] s) (hg_4 : ∀ (x_cells : Nat → Int64) (u_2 : Int32) (u_3 : Int32) (H : Heap) (locs : List Loc) (ls : Array Slot), K_4 x_cells u_2 u_3 → va_P (dC, dI) zz_cl [(q_this, .inr (2, [.ref q_cells, .ref q_beginnings, .int x_height, .int x_width, .int x_imageHeight])), (q_cells, .inl (k_cells, 32, .inr (.inl x_cells))), (q_beginnings, .inl (k_beginnings, 4, .inl x_beginnings))] H → va_D A [(q_this, .inr (2, [.ref q_cells, .ref q_beginnings, .int x_height, .int x_width, .int x_imageHeight])), (q_cells, .inl (k_cells, 32, .inr (.inl x_cells))), (q_beginnings, .inl (k_beginnings, 4, .inl x_beginnings))] → va_S A s.heap H locs → lv_has ls 5 [(0, .ref q_this), (1, .int u_1), (2, .int u_2), (3, .int u_3)] → W p l e rm_RD_takeIn s m args below meth c H locs 0 0 (MQ below (qz_RD_takeIn dC dI q_this q_cells q_beginnings k_cells k_beginnings x_height x_width x_imageHeight post A) args s 0 0 A) (F0 m 4 ls [])) {x_cells : Nat → Int64} {u_2 : Int32} {u_3 : Int32} (hw : wp_RD_takeIn_36 x_height x_width x_imageHeight x_beginnings u_1 post K_4 x_cells u_2 u_3) {H : Heap} {locs : List Loc} {ls : Array Slot} (hP : va_P (dC, dI) zz_cl [(q_this, .inr (2, [.ref q_cells, .ref q_beginnings, .int x_height, .int x_width, .int x_imageHeight])), (q_cells, .inl (k_cells, 32, .inr (.inl x_cells))), (q_beginnings, .inl (k_beginnings, 4, .inl x_beginnings))] H) (hD : va_D A [(q_this, .inr (2, [.ref q_cells, .ref q_beginnings, .int x_height, .int x_width, .int x_imageHeight])), (q_cells, .inl (k_cells, 32, .inr (.inl x_cells))), (q_beginnings, .inl (k_beginnings, 4, .inl x_beginnings))]) (hS : va_S A s.heap H locs) (hl : lv_has ls 5 [(0, .ref q_this), (1, .int u_1), (2, .int u_2), (3, .int u_3)]) : W p l e rm_RD_takeIn s m args below meth c H locs 0 0 (MQ below (qz_RD_takeIn dC dI q_this q_cells q_beginnings k_cells k_beginnings x_height x_width x_imageHeight post A) args s 0 0 A) (F0 m 36 ls []) := by
  have C1 := C0
  obtain ⟨hx, hb, hr, hml, hown, hts, hlocks⟩ := C1
  unfold wp_RD_takeIn_36 at hw
  refine lv_iconst (v := 0) hx hb d_RD_takeIn_36 (by decide) ?_
  exact k_RD_takeIn_37 C0 hA hK hg_4 hw hP hD hS hl
def wp_RD_takeIn_4b (x_height : Int32) (x_width : Int32) (x_imageHeight : Int32) (x_beginnings : Nat → Int32) (u_1 : Int32) (post : (Nat → Int64) → (Nat → Int32) → Prop)  (P : (Nat → Int64) → Int32 → Int32 → Prop) (x_cells : Nat → Int64) (u_2 : Int32) (u_3 : Int32) : Prop := ((x_width + x_height) ≤ u_3 → (post x_cells x_beginnings)) ∧ (¬ (x_width + x_height) ≤ u_3 → ((u_1 ≤ u_2 → (wp_RD_takeIn_36 x_height x_width x_imageHeight x_beginnings u_1 post P x_cells u_2 u_3)) ∧ (¬ u_1 ≤ u_2 → (vp_in u_2 4 ∧ ((¬ (x_beginnings u_2.toNatClampNeg) = u_3 → (wp_RD_takeIn_36 x_height x_width x_imageHeight x_beginnings u_1 post P x_cells u_2 u_3)) ∧ ((x_beginnings u_2.toNatClampNeg) = u_3 → (wp_RD_takeIn_37 x_height x_width x_imageHeight x_beginnings u_1 post P x_cells u_2 u_3 1)))))))
def wp_RD_takeIn_4 (x_height : Int32) (x_width : Int32) (x_imageHeight : Int32) (x_beginnings : Nat → Int32) (u_1 : Int32) (post : (Nat → Int64) → (Nat → Int32) → Prop)  (x_cells : Nat → Int64) (u_2 : Int32) (u_3 : Int32) : Prop := ∀ P : (Nat → Int64) → Int32 → Int32 → Prop, (∀ (x_cells : Nat → Int64) (u_2 : Int32) (u_3 : Int32), wp_RD_takeIn_4b x_height x_width x_imageHeight x_beginnings u_1 post P x_cells u_2 u_3 → P x_cells u_2 u_3) → P x_cells u_2 u_3
set_option maxHeartbeats 4000000 in
set_option maxRecDepth 100000 in
theorem k_RD_takeIn_4 {p : Program} {l : Launch} {e : Env} {s : State} {m : MethodId} {args : Array Value} {below : List Frame} {meth : Method} {c : Code} {dC : Nat → ClassId} {dI : Nat → Nat → Nat} {A : Nat → Prop} {q_this q_cells q_beginnings : Nat} {k_cells k_beginnings : ClassId} {x_height : Int32} {x_width : Int32} {x_imageHeight : Int32} {x_beginnings : Nat → Int32} {u_1 : Int32} {post : (Nat → Int64) → (Nat → Int32) → Prop}  (C0 : cx_RD_takeIn p s m args meth c) (hA : ∀ q : Nat, s.heap.size ≤ q → A q) (hK : va_K (dC, dI) zz_cl [(k_cells, .long), (k_beginnings, .int)] s) {x_cells : Nat → Int64} {u_2 : Int32} {u_3 : Int32} (hw : wp_RD_takeIn_4 x_height x_width x_imageHeight x_beginnings u_1 post x_cells u_2 u_3) {H : Heap} {locs : List Loc} {ls : Array Slot} (hP : va_P (dC, dI) zz_cl [(q_this, .inr (2, [.ref q_cells, .ref q_beginnings, .int x_height, .int x_width, .int x_imageHeight])), (q_cells, .inl (k_cells, 32, .inr (.inl x_cells))), (q_beginnings, .inl (k_beginnings, 4, .inl x_beginnings))] H) (hD : va_D A [(q_this, .inr (2, [.ref q_cells, .ref q_beginnings, .int x_height, .int x_width, .int x_imageHeight])), (q_cells, .inl (k_cells, 32, .inr (.inl x_cells))), (q_beginnings, .inl (k_beginnings, 4, .inl x_beginnings))]) (hS : va_S A s.heap H locs) (hl : lv_has ls 5 [(0, .ref q_this), (1, .int u_1), (2, .int u_2), (3, .int u_3)]) : W p l e rm_RD_takeIn s m args below meth c H locs 0 0 (MQ below (qz_RD_takeIn dC dI q_this q_cells q_beginnings k_cells k_beginnings x_height x_width x_imageHeight post A) args s 0 0 A) (F0 m 4 ls []) := by
  have C1 := C0
  obtain ⟨hx, hb, hr, hml, hown, hts, hlocks⟩ := C1
  refine hw (fun (x_cells : Nat → Int64) (u_2 : Int32) (u_3 : Int32) => ∀ (H : Heap) (locs : List Loc) (ls : Array Slot), va_P (dC, dI) zz_cl [(q_this, .inr (2, [.ref q_cells, .ref q_beginnings, .int x_height, .int x_width, .int x_imageHeight])), (q_cells, .inl (k_cells, 32, .inr (.inl x_cells))), (q_beginnings, .inl (k_beginnings, 4, .inl x_beginnings))] H → va_D A [(q_this, .inr (2, [.ref q_cells, .ref q_beginnings, .int x_height, .int x_width, .int x_imageHeight])), (q_cells, .inl (k_cells, 32, .inr (.inl x_cells))), (q_beginnings, .inl (k_beginnings, 4, .inl x_beginnings))] → va_S A s.heap H locs → lv_has ls 5 [(0, .ref q_this), (1, .int u_1), (2, .int u_2), (3, .int u_3)] → W p l e rm_RD_takeIn s m args below meth c H locs 0 0 (MQ below (qz_RD_takeIn dC dI q_this q_cells q_beginnings k_cells k_beginnings x_height x_width x_imageHeight post A) args s 0 0 A) (F0 m 4 ls [])) ?_ H locs ls hP hD hS hl
  clear hw hP hD hS hl H locs ls
  intro x_cells u_2 u_3 hw H locs ls hP hD hS hl
  unfold wp_RD_takeIn_4b at hw
  refine lv_iload_n hx hb d_RD_takeIn_4 rfl (lv_at hl 3 rfl) ?_
  refine lv_aload_n hx hb d_RD_takeIn_5 rfl (lv_at hl 0 rfl) ?_
  refine va_get (D := (dC, dI)) (ci := 2) (v := .int x_width) (C := "StructureRows$Reduction") (T := T_RD) (N := 5) hx hb hts in_RD hown hK hP 0 rfl rfl 3 (by decide) (hts _ tw_61) (fun _ h9 => h9) rfl d_RD_takeIn_6 ?_
  refine lv_aload_n hx hb d_RD_takeIn_9 rfl (lv_at hl 0 rfl) ?_
  refine va_get (D := (dC, dI)) (ci := 2) (v := .int x_height) (C := "StructureRows$Reduction") (T := T_RD) (N := 5) hx hb hts in_RD hown hK hP 0 rfl rfl 2 (by decide) (hts _ tw_60) (fun _ h9 => h9) rfl d_RD_takeIn_10 ?_
  refine lv_iadd hx hb d_RD_takeIn_13 ?_
  refine lv_icmp_ge (tgt := 112) hx hb d_RD_takeIn_14 (by decide) (fun h_1 => ?_) (fun h_1 => ?_)
  · replace hw := hw.1 h_1
    exact W.vret hx hb hr (fun t ht hW => ⟨⟨(x_cells, x_beginnings), rfl, hw, by rw [ht]; exact hP, va_K.moved hW.alike hK, hD⟩, hS.F ht⟩) hS.2.2 d_RD_takeIn_112
  · replace hw := hw.2 h_1
    refine lv_iload_n hx hb d_RD_takeIn_17 rfl (lv_at hl 2 rfl) ?_
    refine lv_iload_n hx hb d_RD_takeIn_18 rfl (lv_at hl 1 rfl) ?_
    refine lv_icmp_ge (tgt := 36) hx hb d_RD_takeIn_19 (by decide) (fun h_2 => ?_) (fun h_2 => ?_)
    · replace hw := hw.1 h_2
      exact k_RD_takeIn_36 C0 hA hK (fun y0 y1 y2 H locs ls h9 h1 h2 h3 h4 => h9 H locs ls h1 h2 h3 h4) hw hP hD hS hl
    · replace hw := hw.2 h_2
      refine lv_aload_n hx hb d_RD_takeIn_22 rfl (lv_at hl 0 rfl) ?_
      refine va_get (D := (dC, dI)) (ci := 2) (v := .ref q_beginnings) (C := "StructureRows$Reduction") (T := T_RD) (N := 5) hx hb hts in_RD hown hK hP 0 rfl rfl 1 (by decide) (hts _ tw_59) (fun _ h9 => h9) rfl d_RD_takeIn_23 ?_
      refine lv_iload_n hx hb d_RD_takeIn_26 rfl (lv_at hl 2 rfl) ?_
      obtain ⟨h_16, hw⟩ := hw
      refine va_iald hx hb hK hP 2 1 rfl rfl h_16 d_RD_takeIn_27 ?_
      refine lv_iload_n hx hb d_RD_takeIn_28 rfl (lv_at hl 3 rfl) ?_
      refine lv_icmp_ne (tgt := 36) hx hb d_RD_takeIn_29 (by decide) (fun h_17 => ?_) (fun h_17 => ?_)
      · replace hw := hw.1 h_17
        exact k_RD_takeIn_36 C0 hA hK (fun y0 y1 y2 H locs ls h9 h1 h2 h3 h4 => h9 H locs ls h1 h2 h3 h4) hw hP hD hS hl
      · replace hw := hw.2 h_17
        refine lv_iconst (v := 1) hx hb d_RD_takeIn_32 (by decide) ?_
        refine lv_goto (tgt := 37) hx hb d_RD_takeIn_33 (by decide) ?_
        exact k_RD_takeIn_37 C0 hA hK (fun y0 y1 y2 H locs ls h9 h1 h2 h3 h4 => h9 H locs ls h1 h2 h3 h4) hw hP hD hS hl
def wp_RD_takeIn (x_height : Int32) (x_width : Int32) (x_imageHeight : Int32) (x_cells : Nat → Int64) (x_beginnings : Nat → Int32) (a_0 : Int32) (post : (Nat → Int64) → (Nat → Int32) → Prop) : Prop := wp_RD_takeIn_4 x_height x_width x_imageHeight x_beginnings a_0 post x_cells 0 0
set_option maxHeartbeats 4000000 in
set_option maxRecDepth 100000 in
theorem c_RD_takeIn (l : Launch) (dC : Nat → ClassId) (dI : Nat → Nat → Nat) (q_this q_cells q_beginnings : Nat) (k_cells k_beginnings : ClassId) (sz : Nat) (x_height : Int32) (x_width : Int32) (x_imageHeight : Int32) (x_cells : Nat → Int64) (x_beginnings : Nat → Int32) (a_0 : Int32) (post : (Nat → Int64) → (Nat → Int32) → Prop) (hw : wp_RD_takeIn x_height x_width x_imageHeight x_cells x_beginnings a_0 post) : Met l y_RD_takeIn (zz_w y_RD_takeIn b_RD_takeIn 5 none) rm_RD_takeIn (va_Pc [.ref q_this, .int a_0] (fun U => U.heap.size = sz ∧ va_P (dC, dI) zz_cl [(q_this, .inr (2, [.ref q_cells, .ref q_beginnings, .int x_height, .int x_width, .int x_imageHeight])), (q_cells, .inl (k_cells, 32, .inr (.inl x_cells))), (q_beginnings, .inl (k_beginnings, 4, .inl x_beginnings))] U.heap ∧ va_K (dC, dI) zz_cl [(k_cells, .long), (k_beginnings, .int)] U ∧ va_D (fun _ => True) [(q_this, .inr (2, [.ref q_cells, .ref q_beginnings, .int x_height, .int x_width, .int x_imageHeight])), (q_cells, .inl (k_cells, 32, .inr (.inl x_cells))), (q_beginnings, .inl (k_beginnings, 4, .inl x_beginnings))])) (qz_RD_takeIn dC dI q_this q_cells q_beginnings k_cells k_beginnings x_height x_width x_imageHeight post (va_A [(q_this, .inr (2, [.ref q_cells, .ref q_beginnings, .int x_height, .int x_width, .int x_imageHeight])), (q_cells, .inl (k_cells, 32, .inr (.inl x_cells))), (q_beginnings, .inl (k_beginnings, 4, .inl x_beginnings))] sz)) 0 0 (va_A [(q_this, .inr (2, [.ref q_cells, .ref q_beginnings, .int x_height, .int x_width, .int x_imageHeight])), (q_cells, .inl (k_cells, 32, .inr (.inl x_cells))), (q_beginnings, .inl (k_beginnings, 4, .inl x_beginnings))] sz) := by
  refine Met.ofW (cc := b_RD_takeIn) (maxL := 5) (ret := none) (by decide) rfl ?_
  intro p e s m args below meth c s₁ B hml hv
  obtain ⟨rfl, hsz, hP, hK, hD0⟩ := hv
  have hx := B.exec
  have hb := B.bytes
  have hr := B.returns
  have hts0 := atoms_spec (ws := (zz_w y_RD_takeIn b_RD_takeIn 5 none)) B.pre
  have hts : ∀ w ∈ zz_GW, w.before _ s = true := fun w h => hts0 w (List.mem_cons_of_mem _ h)
  clear hts0
  have hown : s.vm.findClass "StructureRows$Reduction" = some m.cls := findClass_of_methodNamed B.named
  have hlocks := B.notSynchronized
  have C0 : cx_RD_takeIn p s m _ meth c := ⟨hx, hb, hr, hml, hown, hts, hlocks⟩
  subst hsz
  have hD := hD0.self (sz := s.heap.size)
  generalize hAe : va_A [(q_this, .inr (2, [.ref q_cells, .ref q_beginnings, .int x_height, .int x_width, .int x_imageHeight])), (q_cells, .inl (k_cells, 32, .inr (.inl x_cells))), (q_beginnings, .inl (k_beginnings, 4, .inl x_beginnings))] s.heap.size = A at hD ⊢
  have hA : ∀ q : Nat, s.heap.size ≤ q → A q := fun q h => by rw [← hAe]; exact Or.inr h
  clear hAe hD0
  have hS : va_S A s.heap s.heap [] := va_S.rf
  have hl := lv_entry ([.ref q_this, .int a_0]) (n := 5) (Nat.le_of_ble_eq_true rfl)
  rw [lg_entry_eq]
  generalize (lg_sl ([.ref q_this, .int a_0]) ++ List.replicate (5 - (lg_sl ([.ref q_this, .int a_0])).length) Slot.unset).toArray = ls at hl ⊢
  replace hl : lv_has ls 5 [(0, .ref q_this), (1, .int a_0)] := hl
  unfold wp_RD_takeIn at hw
  change W p l e rm_RD_takeIn s m _ below meth c s.heap [] 0 0 _ _
  refine lv_iconst (v := 0) hx hb d_RD_takeIn_0 (by decide) ?_
  refine lv_istore_n (lv' := [(2, .int 0), (0, .ref q_this), (1, .int a_0)]) hx hb d_RD_takeIn_1 rfl hl (by decide) rfl (fun ls hl => ?_)
  refine lv_iconst (v := 0) hx hb d_RD_takeIn_2 (by decide) ?_
  refine lv_istore_n (lv' := [(3, .int 0), (2, .int 0), (0, .ref q_this), (1, .int a_0)]) hx hb d_RD_takeIn_3 rfl hl (by decide) rfl (fun ls hl => ?_)
  exact k_RD_takeIn_4 C0 hA hK hw hP hD hS (lv_sub hl [2, 3, 1, 0] rfl)
set_option maxHeartbeats 4000000 in
set_option maxRecDepth 100000 in
theorem go_RD_takeIn {p : Program} {l : Launch} {e : Env} {R : Room} {s : State} {m : MethodId} {args : Array Value} {below : List Frame} {meth : Method} {c : Code} {H : Heap} {locs : List Loc} {cells slots : Nat} {Q : State → Prop} {cc : ByteArray} {nL : Nat} {Ts : List Cond} {own : String} {index : Nat} {A0 : Nat → Prop} {H0 : Heap} {dC : Nat → ClassId} {dI : Nat → Nat → Nat} {ws wr : va_W} {tys : List (ClassId × FieldType)} {q_this q_cells q_beginnings : Nat} {k_cells k_beginnings : ClassId} {x_height : Int32} {x_width : Int32} {x_imageHeight : Int32} {x_cells : Nat → Int64} {x_beginnings : Nat → Int32} {a_0 : Int32} {post : (Nat → Int64) → (Nat → Int32) → Prop} (S : CallFix p m c cc nL s args Ts own) (cw : CallW R s args own "StructureRows$Reduction" index y_RD_takeIn b_RD_takeIn 5 none (zz_w y_RD_takeIn b_RD_takeIn 5 none) rm_RD_takeIn 0 0 1) (hK : va_K (dC, dI) zz_cl tys s) (hP : va_P (dC, dI) zz_cl ws H) (hD : va_D A0 ws) (hS : va_S A0 H0 H locs) (hA : ∀ q, H0.size ≤ q → A0 q) (isC isR kt : List Nat) (h1 : isC.filterMap (fun i => ws[i]?) = [(q_this, .inr (2, [.ref q_cells, .ref q_beginnings, .int x_height, .int x_width, .int x_imageHeight])), (q_cells, .inl (k_cells, 32, .inr (.inl x_cells))), (q_beginnings, .inl (k_beginnings, 4, .inl x_beginnings))]) (h2 : isC.map (fun i => ws[i]?) = ([(q_this, .inr (2, [.ref q_cells, .ref q_beginnings, .int x_height, .int x_width, .int x_imageHeight])), (q_cells, .inl (k_cells, 32, .inr (.inl x_cells))), (q_beginnings, .inl (k_beginnings, 4, .inl x_beginnings))] : va_W).map some) (h3 : va_nd isC = true) (h4 : isR.map (fun i => ws[i]?) = wr.map some) (h5 : va_nd isR = true) (h6 : ∀ i ∈ isR, i ∉ isC) (h7 : kt.filterMap (fun i => tys[i]?) = [(k_cells, .long), (k_beginnings, .int)]) (hw : wp_RD_takeIn x_height x_width x_imageHeight x_cells x_beginnings a_0 post) {pc : Nat} {ls : Array Slot} {rest : List Value} (hsize : ls.size = nL) (hrest : (rest.map fun v => v.category).sum ≤ 8) (hdg : decode cc pc = .ok (.invokevirtual index, 3)) (hf : cells + 0 ≤ R.cells ∧ slots + 0 ≤ R.slots) (kk : ∀ (m0 : Nat → Int64) (m1 : Nat → Int32) (H1 : Heap) (locs1 : List Loc), post m0 m1 → va_P (dC, dI) zz_cl (wr ++ [(q_this, .inr (2, [.ref q_cells, .ref q_beginnings, .int x_height, .int x_width, .int x_imageHeight])), (q_cells, .inl (k_cells, 32, .inr (.inl m0))), (q_beginnings, .inl (k_beginnings, 4, .inl m1))]) H1 → va_D A0 (wr ++ [(q_this, .inr (2, [.ref q_cells, .ref q_beginnings, .int x_height, .int x_width, .int x_imageHeight])), (q_cells, .inl (k_cells, 32, .inr (.inl m0))), (q_beginnings, .inl (k_beginnings, 4, .inl m1))]) → va_S A0 H0 H1 locs1 → W p l e R s m args below meth c H1 locs1 (cells + 0) (slots + 0) Q (F0 m (pc + 3) ls rest)) : W p l e R s m args below meth c H locs cells slots Q (F0 m pc ls (.int a_0 :: .ref q_this :: rest)) := by
  have hPc := hP.sub (ws' := [(q_this, .inr (2, [.ref q_cells, .ref q_beginnings, .int x_height, .int x_width, .int x_imageHeight])), (q_cells, .inl (k_cells, 32, .inr (.inl x_cells))), (q_beginnings, .inl (k_beginnings, 4, .inl x_beginnings))]) isC h1
  have hDc := hD.sub (ws' := [(q_this, .inr (2, [.ref q_cells, .ref q_beginnings, .int x_height, .int x_width, .int x_imageHeight])), (q_cells, .inl (k_cells, 32, .inr (.inl x_cells))), (q_beginnings, .inl (k_beginnings, 4, .inl x_beginnings))]) isC h3 h2
  have hKc := hK.sub (tys' := [(k_cells, .long), (k_beginnings, .int)]) kt h7
  have hFc := va_free (wc := [(q_this, .inr (2, [.ref q_cells, .ref q_beginnings, .int x_height, .int x_width, .int x_imageHeight])), (q_cells, .inl (k_cells, 32, .inr (.inl x_cells))), (q_beginnings, .inl (k_beginnings, 4, .inl x_beginnings))]) hD hS hA isC h2
  refine va_callv (va_runV (As := [.int a_0]) (rest := rest) S (c_RD_takeIn l dC dI q_this q_cells q_beginnings k_cells k_beginnings H.size x_height x_width x_imageHeight x_cells x_beginnings a_0 post hw) cw ⟨zz_blind, va_recv hKc hPc (ci := 2) (q0 := 0) rfl rfl, fun U hU hW => ⟨rfl, by rw [hU], by rw [hU]; exact hPc, va_K.moved hW.alike hKc, hDc.weaken (fun _ _ _ _ => trivial)⟩⟩ rfl rfl hsize rfl (lv_room hrest) hdg hf) hS (fun q _ h => hFc q h) hFc (fun u t H1 locs ht hvm hw hB hz1 hk1 hS => ?_)
  obtain ⟨hP1, hK1, hD1⟩ := hB
  rw [ht] at hP1
  obtain ⟨hP2, hD2⟩ := va_join (wr := wr) (w1 := [(q_this, .inr (2, [.ref q_cells, .ref q_beginnings, .int x_height, .int x_width, .int x_imageHeight])), (q_cells, .inl (k_cells, 32, .inr (.inl u.1))), (q_beginnings, .inl (k_beginnings, 4, .inl u.2))]) hP hD isC isR h2 h4 h5 h6 hk1 hFc hP1 hD1
  exact kk u.1 u.2 H1 locs hw hP2 hD2 hS
abbrev rm_RD_reduce : Room := { frames := 4, cells := 0, slots := 0, locals := 100 }
abbrev qz_RD_reduce (dC : Nat → ClassId) (dI : Nat → Nat → Nat) (q_this q_cells q_beginnings : Nat) (k_cells k_beginnings : ClassId) (x_height : Int32) (x_width : Int32) (post : Int32 → (Nat → Int64) → (Nat → Int32) → Prop) (A : Nat → Prop) : Array Value → State → Outcome → State → Prop := va_Qv (fun (u : Int32 × (Nat → Int64) × (Nat → Int32)) => post u.1 u.2.1 u.2.2) (fun (u : Int32 × (Nat → Int64) × (Nat → Int32)) (t : State) => va_P (dC, dI) zz_cl [(q_this, .inr (2, [.ref q_cells, .ref q_beginnings, .int x_height, .int x_width, .int u.1])), (q_cells, .inl (k_cells, 32, .inr (.inl u.2.1))), (q_beginnings, .inl (k_beginnings, 4, .inl u.2.2))] t.heap ∧ va_K (dC, dI) zz_cl [(k_cells, .long), (k_beginnings, .int)] t ∧ va_D A [(q_this, .inr (2, [.ref q_cells, .ref q_beginnings, .int x_height, .int x_width, .int u.1])), (q_cells, .inl (k_cells, 32, .inr (.inl u.2.1))), (q_beginnings, .inl (k_beginnings, 4, .inl u.2.2))]) A
def cx_RD_reduce (p : Program) (s : State) (m : MethodId) (args : Array Value) (meth : Method) (c : Code) : Prop := p.tables.exec = Jvm.exec ∧ c.code = b_RD_reduce ∧ meth.sig.returnType = none ∧ c.maxLocals = 2 ∧ s.vm.findClass "StructureRows$Reduction" = some m.cls ∧ (∀ w ∈ zz_GW, w.before args s = true) ∧ meth.locks = false
def wp_RD_reduce_59 (x_height : Int32) (x_width : Int32) (x_cells : Nat → Int64) (x_beginnings : Nat → Int32) (post : Int32 → (Nat → Int64) → (Nat → Int32) → Prop) (K_28 : Int32 → Int32 → Prop) (x_imageHeight : Int32) (u_1 : Int32) : Prop := ∀ v_5 : Int32, v_5 = u_1 + 1 → (K_28 x_imageHeight v_5)
set_option maxHeartbeats 4000000 in
set_option maxRecDepth 100000 in
theorem k_RD_reduce_59 {p : Program} {l : Launch} {e : Env} {s : State} {m : MethodId} {args : Array Value} {below : List Frame} {meth : Method} {c : Code} {dC : Nat → ClassId} {dI : Nat → Nat → Nat} {A : Nat → Prop} {q_this q_cells q_beginnings : Nat} {k_cells k_beginnings : ClassId} {x_height : Int32} {x_width : Int32} {x_cells : Nat → Int64} {x_beginnings : Nat → Int32} {post : Int32 → (Nat → Int64) → (Nat → Int32) → Prop} {K_28 : Int32 → Int32 → Prop} (C0 : cx_RD_reduce p s m args meth c) (hA : ∀ q : Nat, s.heap.size ≤ q → A q) (hK : va_K (dC, dI) zz_cl [(k_cells, .long), (k_beginnings, .int)] s) (hg_28 : ∀ (x_imageHeight : Int32) (u_1 : Int32) (H : Heap) (locs : List Loc) (ls : Array Slot), K_28 x_imageHeight u_1 → va_P (dC, dI) zz_cl [(q_this, .inr (2, [.ref q_cells, .ref q_beginnings, .int x_height, .int x_width, .int x_imageHeight])), (q_cells, .inl (k_cells, 32, .inr (.inl x_cells))), (q_beginnings, .inl (k_beginnings, 4, .inl x_beginnings))] H → va_D A [(q_this, .inr (2, [.ref q_cells, .ref q_beginnings, .int x_height, .int x_width, .int x_imageHeight])), (q_cells, .inl (k_cells, 32, .inr (.inl x_cells))), (q_beginnings, .inl (k_beginnings, 4, .inl x_beginnings))] → va_S A s.heap H locs → lv_has ls 2 [(0, .ref q_this), (1, .int u_1)] → W p l e rm_RD_reduce s m args below meth c H locs 0 0 (MQ below (qz_RD_reduce dC dI q_this q_cells q_beginnings k_cells k_beginnings x_height x_width post A) args s 0 0 A) (F0 m 28 ls [])) {x_imageHeight : Int32} {u_1 : Int32} (hw : wp_RD_reduce_59 x_height x_width x_cells x_beginnings post K_28 x_imageHeight u_1) {H : Heap} {locs : List Loc} {ls : Array Slot} (hP : va_P (dC, dI) zz_cl [(q_this, .inr (2, [.ref q_cells, .ref q_beginnings, .int x_height, .int x_width, .int x_imageHeight])), (q_cells, .inl (k_cells, 32, .inr (.inl x_cells))), (q_beginnings, .inl (k_beginnings, 4, .inl x_beginnings))] H) (hD : va_D A [(q_this, .inr (2, [.ref q_cells, .ref q_beginnings, .int x_height, .int x_width, .int x_imageHeight])), (q_cells, .inl (k_cells, 32, .inr (.inl x_cells))), (q_beginnings, .inl (k_beginnings, 4, .inl x_beginnings))]) (hS : va_S A s.heap H locs) (hl : lv_has ls 2 [(0, .ref q_this), (1, .int u_1)]) : W p l e rm_RD_reduce s m args below meth c H locs 0 0 (MQ below (qz_RD_reduce dC dI q_this q_cells q_beginnings k_cells k_beginnings x_height x_width post A) args s 0 0 A) (F0 m 59 ls []) := by
  have C1 := C0
  obtain ⟨hx, hb, hr, hml, hown, hts, hlocks⟩ := C1
  unfold wp_RD_reduce_59 at hw
  obtain ⟨v_5, ev_5⟩ : ∃ y : Int32, y = u_1 + 1 := ⟨_, rfl⟩
  replace hw := hw v_5 ev_5
  refine lv_iinc (v := v_5) (lv' := [(1, .int v_5), (0, .ref q_this)]) hx hb d_RD_reduce_59 hl (k := 1) rfl (by rw [ev_5]; rfl) (by decide) rfl (fun ls hl => ?_)
  refine lv_goto (tgt := 28) hx hb d_RD_reduce_62 (by decide) ?_
  exact hg_28 x_imageHeight v_5 H locs ls hw hP hD hS (lv_sub hl [1, 0] rfl)
def wp_RD_reduce_28b (x_height : Int32) (x_width : Int32) (x_cells : Nat → Int64) (x_beginnings : Nat → Int32) (post : Int32 → (Nat → Int64) → (Nat → Int32) → Prop)  (P : Int32 → Int32 → Prop) (x_imageHeight : Int32) (u_1 : Int32) : Prop := (x_height ≤ u_1 → (post x_imageHeight x_cells x_beginnings)) ∧ (¬ x_height ≤ u_1 → (vp_in u_1 4 ∧ ((x_width ≤ (x_beginnings u_1.toNatClampNeg) → (wp_RD_reduce_59 x_height x_width x_cells x_beginnings post P x_imageHeight u_1)) ∧ (¬ x_width ≤ (x_beginnings u_1.toNatClampNeg) → (∀ v_6 : Int32, v_6 = x_imageHeight + 1 → (wp_RD_reduce_59 x_height x_width x_cells x_beginnings post P v_6 u_1))))))
def wp_RD_reduce_28 (x_height : Int32) (x_width : Int32) (x_cells : Nat → Int64) (x_beginnings : Nat → Int32) (post : Int32 → (Nat → Int64) → (Nat → Int32) → Prop)  (x_imageHeight : Int32) (u_1 : Int32) : Prop := ∀ P : Int32 → Int32 → Prop, (∀ (x_imageHeight : Int32) (u_1 : Int32), wp_RD_reduce_28b x_height x_width x_cells x_beginnings post P x_imageHeight u_1 → P x_imageHeight u_1) → P x_imageHeight u_1
set_option maxHeartbeats 4000000 in
set_option maxRecDepth 100000 in
theorem k_RD_reduce_28 {p : Program} {l : Launch} {e : Env} {s : State} {m : MethodId} {args : Array Value} {below : List Frame} {meth : Method} {c : Code} {dC : Nat → ClassId} {dI : Nat → Nat → Nat} {A : Nat → Prop} {q_this q_cells q_beginnings : Nat} {k_cells k_beginnings : ClassId} {x_height : Int32} {x_width : Int32} {x_cells : Nat → Int64} {x_beginnings : Nat → Int32} {post : Int32 → (Nat → Int64) → (Nat → Int32) → Prop}  (C0 : cx_RD_reduce p s m args meth c) (hA : ∀ q : Nat, s.heap.size ≤ q → A q) (hK : va_K (dC, dI) zz_cl [(k_cells, .long), (k_beginnings, .int)] s) {x_imageHeight : Int32} {u_1 : Int32} (hw : wp_RD_reduce_28 x_height x_width x_cells x_beginnings post x_imageHeight u_1) {H : Heap} {locs : List Loc} {ls : Array Slot} (hP : va_P (dC, dI) zz_cl [(q_this, .inr (2, [.ref q_cells, .ref q_beginnings, .int x_height, .int x_width, .int x_imageHeight])), (q_cells, .inl (k_cells, 32, .inr (.inl x_cells))), (q_beginnings, .inl (k_beginnings, 4, .inl x_beginnings))] H) (hD : va_D A [(q_this, .inr (2, [.ref q_cells, .ref q_beginnings, .int x_height, .int x_width, .int x_imageHeight])), (q_cells, .inl (k_cells, 32, .inr (.inl x_cells))), (q_beginnings, .inl (k_beginnings, 4, .inl x_beginnings))]) (hS : va_S A s.heap H locs) (hl : lv_has ls 2 [(0, .ref q_this), (1, .int u_1)]) : W p l e rm_RD_reduce s m args below meth c H locs 0 0 (MQ below (qz_RD_reduce dC dI q_this q_cells q_beginnings k_cells k_beginnings x_height x_width post A) args s 0 0 A) (F0 m 28 ls []) := by
  have C1 := C0
  obtain ⟨hx, hb, hr, hml, hown, hts, hlocks⟩ := C1
  refine hw (fun (x_imageHeight : Int32) (u_1 : Int32) => ∀ (H : Heap) (locs : List Loc) (ls : Array Slot), va_P (dC, dI) zz_cl [(q_this, .inr (2, [.ref q_cells, .ref q_beginnings, .int x_height, .int x_width, .int x_imageHeight])), (q_cells, .inl (k_cells, 32, .inr (.inl x_cells))), (q_beginnings, .inl (k_beginnings, 4, .inl x_beginnings))] H → va_D A [(q_this, .inr (2, [.ref q_cells, .ref q_beginnings, .int x_height, .int x_width, .int x_imageHeight])), (q_cells, .inl (k_cells, 32, .inr (.inl x_cells))), (q_beginnings, .inl (k_beginnings, 4, .inl x_beginnings))] → va_S A s.heap H locs → lv_has ls 2 [(0, .ref q_this), (1, .int u_1)] → W p l e rm_RD_reduce s m args below meth c H locs 0 0 (MQ below (qz_RD_reduce dC dI q_this q_cells q_beginnings k_cells k_beginnings x_height x_width post A) args s 0 0 A) (F0 m 28 ls [])) ?_ H locs ls hP hD hS hl
  clear hw hP hD hS hl H locs ls
  intro x_imageHeight u_1 hw H locs ls hP hD hS hl
  unfold wp_RD_reduce_28b at hw
  refine lv_iload_n hx hb d_RD_reduce_28 rfl (lv_at hl 1 rfl) ?_
  refine lv_aload_n hx hb d_RD_reduce_29 rfl (lv_at hl 0 rfl) ?_
  refine va_get (D := (dC, dI)) (ci := 2) (v := .int x_height) (C := "StructureRows$Reduction") (T := T_RD) (N := 5) hx hb hts in_RD hown hK hP 0 rfl rfl 2 (by decide) (hts _ tw_60) (fun _ h9 => h9) rfl d_RD_reduce_30 ?_
  refine lv_icmp_ge (tgt := 65) hx hb d_RD_reduce_33 (by decide) (fun h_2 => ?_) (fun h_2 => ?_)
  · replace hw := hw.1 h_2
    exact W.vret hx hb hr (fun t ht hW => ⟨⟨(x_imageHeight, x_cells, x_beginnings), rfl, hw, by rw [ht]; exact hP, va_K.moved hW.alike hK, hD⟩, hS.F ht⟩) hS.2.2 d_RD_reduce_65
  · replace hw := hw.2 h_2
    refine lv_aload_n hx hb d_RD_reduce_36 rfl (lv_at hl 0 rfl) ?_
    refine va_get (D := (dC, dI)) (ci := 2) (v := .ref q_beginnings) (C := "StructureRows$Reduction") (T := T_RD) (N := 5) hx hb hts in_RD hown hK hP 0 rfl rfl 1 (by decide) (hts _ tw_59) (fun _ h9 => h9) rfl d_RD_reduce_37 ?_
    refine lv_iload_n hx hb d_RD_reduce_40 rfl (lv_at hl 1 rfl) ?_
    obtain ⟨h_3, hw⟩ := hw
    refine va_iald hx hb hK hP 2 1 rfl rfl h_3 d_RD_reduce_41 ?_
    refine lv_aload_n hx hb d_RD_reduce_42 rfl (lv_at hl 0 rfl) ?_
    refine va_get (D := (dC, dI)) (ci := 2) (v := .int x_width) (C := "StructureRows$Reduction") (T := T_RD) (N := 5) hx hb hts in_RD hown hK hP 0 rfl rfl 3 (by decide) (hts _ tw_61) (fun _ h9 => h9) rfl d_RD_reduce_43 ?_
    refine lv_icmp_ge (tgt := 59) hx hb d_RD_reduce_46 (by decide) (fun h_4 => ?_) (fun h_4 => ?_)
    · replace hw := hw.1 h_4
      exact k_RD_reduce_59 C0 hA hK (fun y0 y1 H locs ls h9 h1 h2 h3 h4 => h9 H locs ls h1 h2 h3 h4) hw hP hD hS hl
    · replace hw := hw.2 h_4
      refine lv_aload_n hx hb d_RD_reduce_49 rfl (lv_at hl 0 rfl) ?_
      refine lv_dup hx hb d_RD_reduce_50 rfl ?_
      refine va_get (D := (dC, dI)) (ci := 2) (v := .int x_imageHeight) (C := "StructureRows$Reduction") (T := T_RD) (N := 5) hx hb hts in_RD hown hK hP 0 rfl rfl 4 (by decide) (hts _ tw_62) (fun _ h9 => h9) rfl d_RD_reduce_51 ?_
      refine lv_iconst (v := 1) hx hb d_RD_reduce_54 (by decide) ?_
      refine lv_iadd hx hb d_RD_reduce_55 ?_
      refine lv_topi (fun v_6 ev_6 => ?_)
      replace hw := hw v_6 ev_6
      refine va_put (D := (dC, dI)) (ci := 2) (v := .int v_6) (ty := .int) (C := "StructureRows$Reduction") (T := T_RD) (N := 5) hx hb hts in_RD ty_RD tyok_RD nm_RD hown hK hP hD hS 0 rfl rfl 4 (by decide) (hts _ tw_62) (fun _ h9 => h9) rfl (by decide +kernel) rfl rfl (Nat.le_of_ble_eq_true rfl) d_RD_reduce_56 (fun H locs hP hD hS => ?_)
      replace hP : va_P (dC, dI) zz_cl [(q_this, .inr (2, [.ref q_cells, .ref q_beginnings, .int x_height, .int x_width, .int v_6])), (q_cells, .inl (k_cells, 32, .inr (.inl x_cells))), (q_beginnings, .inl (k_beginnings, 4, .inl x_beginnings))] H := hP
      replace hD : va_D A [(q_this, .inr (2, [.ref q_cells, .ref q_beginnings, .int x_height, .int x_width, .int v_6])), (q_cells, .inl (k_cells, 32, .inr (.inl x_cells))), (q_beginnings, .inl (k_beginnings, 4, .inl x_beginnings))] := hD
      exact k_RD_reduce_59 C0 hA hK (fun y0 y1 H locs ls h9 h1 h2 h3 h4 => h9 H locs ls h1 h2 h3 h4) hw hP hD hS hl
def wp_RD_reduce_2b (x_height : Int32) (x_width : Int32) (x_imageHeight : Int32) (post : Int32 → (Nat → Int64) → (Nat → Int32) → Prop)  (P : (Nat → Int64) → (Nat → Int32) → Int32 → Prop) (x_cells : Nat → Int64) (x_beginnings : Nat → Int32) (u_1 : Int32) : Prop := (x_height ≤ u_1 → (wp_RD_reduce_28 x_height x_width x_cells x_beginnings post 0 0)) ∧ (¬ x_height ≤ u_1 → (wp_RD_takeIn x_height x_width x_imageHeight x_cells x_beginnings u_1 (fun (m_7 : Nat → Int64) (m_8 : Nat → Int32) => (∀ v_9 : Int32, v_9 = u_1 + 1 → (P m_7 m_8 v_9)))))
def wp_RD_reduce_2 (x_height : Int32) (x_width : Int32) (x_imageHeight : Int32) (post : Int32 → (Nat → Int64) → (Nat → Int32) → Prop)  (x_cells : Nat → Int64) (x_beginnings : Nat → Int32) (u_1 : Int32) : Prop := ∀ P : (Nat → Int64) → (Nat → Int32) → Int32 → Prop, (∀ (x_cells : Nat → Int64) (x_beginnings : Nat → Int32) (u_1 : Int32), wp_RD_reduce_2b x_height x_width x_imageHeight post P x_cells x_beginnings u_1 → P x_cells x_beginnings u_1) → P x_cells x_beginnings u_1
set_option maxHeartbeats 4000000 in
set_option maxRecDepth 100000 in
theorem k_RD_reduce_2 {p : Program} {l : Launch} {e : Env} {s : State} {m : MethodId} {args : Array Value} {below : List Frame} {meth : Method} {c : Code} {dC : Nat → ClassId} {dI : Nat → Nat → Nat} {A : Nat → Prop} {q_this q_cells q_beginnings : Nat} {k_cells k_beginnings : ClassId} {x_height : Int32} {x_width : Int32} {x_imageHeight : Int32} {post : Int32 → (Nat → Int64) → (Nat → Int32) → Prop}  (C0 : cx_RD_reduce p s m args meth c) (hA : ∀ q : Nat, s.heap.size ≤ q → A q) (hK : va_K (dC, dI) zz_cl [(k_cells, .long), (k_beginnings, .int)] s) {x_cells : Nat → Int64} {x_beginnings : Nat → Int32} {u_1 : Int32} (hw : wp_RD_reduce_2 x_height x_width x_imageHeight post x_cells x_beginnings u_1) {H : Heap} {locs : List Loc} {ls : Array Slot} (hP : va_P (dC, dI) zz_cl [(q_this, .inr (2, [.ref q_cells, .ref q_beginnings, .int x_height, .int x_width, .int x_imageHeight])), (q_cells, .inl (k_cells, 32, .inr (.inl x_cells))), (q_beginnings, .inl (k_beginnings, 4, .inl x_beginnings))] H) (hD : va_D A [(q_this, .inr (2, [.ref q_cells, .ref q_beginnings, .int x_height, .int x_width, .int x_imageHeight])), (q_cells, .inl (k_cells, 32, .inr (.inl x_cells))), (q_beginnings, .inl (k_beginnings, 4, .inl x_beginnings))]) (hS : va_S A s.heap H locs) (hl : lv_has ls 2 [(0, .ref q_this), (1, .int u_1)]) : W p l e rm_RD_reduce s m args below meth c H locs 0 0 (MQ below (qz_RD_reduce dC dI q_this q_cells q_beginnings k_cells k_beginnings x_height x_width post A) args s 0 0 A) (F0 m 2 ls []) := by
  have C1 := C0
  obtain ⟨hx, hb, hr, hml, hown, hts, hlocks⟩ := C1
  refine hw (fun (x_cells : Nat → Int64) (x_beginnings : Nat → Int32) (u_1 : Int32) => ∀ (H : Heap) (locs : List Loc) (ls : Array Slot), va_P (dC, dI) zz_cl [(q_this, .inr (2, [.ref q_cells, .ref q_beginnings, .int x_height, .int x_width, .int x_imageHeight])), (q_cells, .inl (k_cells, 32, .inr (.inl x_cells))), (q_beginnings, .inl (k_beginnings, 4, .inl x_beginnings))] H → va_D A [(q_this, .inr (2, [.ref q_cells, .ref q_beginnings, .int x_height, .int x_width, .int x_imageHeight])), (q_cells, .inl (k_cells, 32, .inr (.inl x_cells))), (q_beginnings, .inl (k_beginnings, 4, .inl x_beginnings))] → va_S A s.heap H locs → lv_has ls 2 [(0, .ref q_this), (1, .int u_1)] → W p l e rm_RD_reduce s m args below meth c H locs 0 0 (MQ below (qz_RD_reduce dC dI q_this q_cells q_beginnings k_cells k_beginnings x_height x_width post A) args s 0 0 A) (F0 m 2 ls [])) ?_ H locs ls hP hD hS hl
  clear hw hP hD hS hl H locs ls
  intro x_cells x_beginnings u_1 hw H locs ls hP hD hS hl
  unfold wp_RD_reduce_2b at hw
  refine lv_iload_n hx hb d_RD_reduce_2 rfl (lv_at hl 1 rfl) ?_
  refine lv_aload_n hx hb d_RD_reduce_3 rfl (lv_at hl 0 rfl) ?_
  refine va_get (D := (dC, dI)) (ci := 2) (v := .int x_height) (C := "StructureRows$Reduction") (T := T_RD) (N := 5) hx hb hts in_RD hown hK hP 0 rfl rfl 2 (by decide) (hts _ tw_60) (fun _ h9 => h9) rfl d_RD_reduce_4 ?_
  refine lv_icmp_ge (tgt := 21) hx hb d_RD_reduce_7 (by decide) (fun h_1 => ?_) (fun h_1 => ?_)
  · replace hw := hw.1 h_1
    refine lv_aload_n hx hb d_RD_reduce_21 rfl (lv_at hl 0 rfl) ?_
    refine lv_iconst (v := 0) hx hb d_RD_reduce_22 (by decide) ?_
    refine va_put (D := (dC, dI)) (ci := 2) (v := .int 0) (ty := .int) (C := "StructureRows$Reduction") (T := T_RD) (N := 5) hx hb hts in_RD ty_RD tyok_RD nm_RD hown hK hP hD hS 0 rfl rfl 4 (by decide) (hts _ tw_62) (fun _ h9 => h9) rfl (by decide +kernel) rfl rfl (Nat.le_of_ble_eq_true rfl) d_RD_reduce_23 (fun H locs hP hD hS => ?_)
    replace hP : va_P (dC, dI) zz_cl [(q_this, .inr (2, [.ref q_cells, .ref q_beginnings, .int x_height, .int x_width, .int 0])), (q_cells, .inl (k_cells, 32, .inr (.inl x_cells))), (q_beginnings, .inl (k_beginnings, 4, .inl x_beginnings))] H := hP
    replace hD : va_D A [(q_this, .inr (2, [.ref q_cells, .ref q_beginnings, .int x_height, .int x_width, .int 0])), (q_cells, .inl (k_cells, 32, .inr (.inl x_cells))), (q_beginnings, .inl (k_beginnings, 4, .inl x_beginnings))] := hD
    refine lv_iconst (v := 0) hx hb d_RD_reduce_26 (by decide) ?_
    refine lv_istore_n (lv' := [(1, .int 0), (0, .ref q_this)]) hx hb d_RD_reduce_27 rfl hl (by decide) rfl (fun ls hl => ?_)
    exact k_RD_reduce_28 C0 hA hK hw hP hD hS (lv_sub hl [1, 0] rfl)
  · replace hw := hw.2 h_1
    refine lv_aload_n hx hb d_RD_reduce_10 rfl (lv_at hl 0 rfl) ?_
    refine lv_iload_n hx hb d_RD_reduce_11 rfl (lv_at hl 1 rfl) ?_
    refine go_RD_takeIn (wr := []) ⟨hx, hb, hml, hown, hts⟩ (zz_cwV 1 hts tw_160 tw_157 tw_159 tw_1 tw_32 ⟨by decide, by decide, by decide +kernel⟩ ⟨Nat.le_of_ble_eq_true rfl, Nat.le_of_ble_eq_true rfl⟩) hK hP hD hS hA [0, 1, 2] [] [0, 1] rfl rfl (by decide) rfl (by decide) (by decide) rfl hw hl.1 (Nat.le_of_ble_eq_true rfl) d_RD_reduce_12 ⟨Nat.le_of_ble_eq_true rfl, Nat.le_of_ble_eq_true rfl⟩ (fun m_7 m_8 H locs hw hP hD hS => ?_)
    replace hP : va_P (dC, dI) zz_cl [(q_this, .inr (2, [.ref q_cells, .ref q_beginnings, .int x_height, .int x_width, .int x_imageHeight])), (q_cells, .inl (k_cells, 32, .inr (.inl m_7))), (q_beginnings, .inl (k_beginnings, 4, .inl m_8))] H := hP
    replace hD : va_D A [(q_this, .inr (2, [.ref q_cells, .ref q_beginnings, .int x_height, .int x_width, .int x_imageHeight])), (q_cells, .inl (k_cells, 32, .inr (.inl m_7))), (q_beginnings, .inl (k_beginnings, 4, .inl m_8))] := hD
    obtain ⟨v_9, ev_9⟩ : ∃ y : Int32, y = u_1 + 1 := ⟨_, rfl⟩
    replace hw := hw v_9 ev_9
    refine lv_iinc (v := v_9) (lv' := [(1, .int v_9), (0, .ref q_this)]) hx hb d_RD_reduce_15 hl (k := 1) rfl (by rw [ev_9]; rfl) (by decide) rfl (fun ls hl => ?_)
    refine lv_goto (tgt := 2) hx hb d_RD_reduce_18 (by decide) ?_
    exact hw H locs ls hP hD hS (lv_sub hl [1, 0] rfl)
def wp_RD_reduce (x_height : Int32) (x_width : Int32) (x_imageHeight : Int32) (x_cells : Nat → Int64) (x_beginnings : Nat → Int32)  (post : Int32 → (Nat → Int64) → (Nat → Int32) → Prop) : Prop := wp_RD_reduce_2 x_height x_width x_imageHeight post x_cells x_beginnings 0
set_option maxHeartbeats 4000000 in
set_option maxRecDepth 100000 in
theorem c_RD_reduce (l : Launch) (dC : Nat → ClassId) (dI : Nat → Nat → Nat) (q_this q_cells q_beginnings : Nat) (k_cells k_beginnings : ClassId) (sz : Nat) (x_height : Int32) (x_width : Int32) (x_imageHeight : Int32) (x_cells : Nat → Int64) (x_beginnings : Nat → Int32)  (post : Int32 → (Nat → Int64) → (Nat → Int32) → Prop) (hw : wp_RD_reduce x_height x_width x_imageHeight x_cells x_beginnings post) : Met l y_RD_reduce (zz_w y_RD_reduce b_RD_reduce 2 none) rm_RD_reduce (va_Pc [.ref q_this] (fun U => U.heap.size = sz ∧ va_P (dC, dI) zz_cl [(q_this, .inr (2, [.ref q_cells, .ref q_beginnings, .int x_height, .int x_width, .int x_imageHeight])), (q_cells, .inl (k_cells, 32, .inr (.inl x_cells))), (q_beginnings, .inl (k_beginnings, 4, .inl x_beginnings))] U.heap ∧ va_K (dC, dI) zz_cl [(k_cells, .long), (k_beginnings, .int)] U ∧ va_D (fun _ => True) [(q_this, .inr (2, [.ref q_cells, .ref q_beginnings, .int x_height, .int x_width, .int x_imageHeight])), (q_cells, .inl (k_cells, 32, .inr (.inl x_cells))), (q_beginnings, .inl (k_beginnings, 4, .inl x_beginnings))])) (qz_RD_reduce dC dI q_this q_cells q_beginnings k_cells k_beginnings x_height x_width post (va_A [(q_this, .inr (2, [.ref q_cells, .ref q_beginnings, .int x_height, .int x_width, .int x_imageHeight])), (q_cells, .inl (k_cells, 32, .inr (.inl x_cells))), (q_beginnings, .inl (k_beginnings, 4, .inl x_beginnings))] sz)) 0 0 (va_A [(q_this, .inr (2, [.ref q_cells, .ref q_beginnings, .int x_height, .int x_width, .int x_imageHeight])), (q_cells, .inl (k_cells, 32, .inr (.inl x_cells))), (q_beginnings, .inl (k_beginnings, 4, .inl x_beginnings))] sz) := by
  refine Met.ofW (cc := b_RD_reduce) (maxL := 2) (ret := none) (by decide) rfl ?_
  intro p e s m args below meth c s₁ B hml hv
  obtain ⟨rfl, hsz, hP, hK, hD0⟩ := hv
  have hx := B.exec
  have hb := B.bytes
  have hr := B.returns
  have hts0 := atoms_spec (ws := (zz_w y_RD_reduce b_RD_reduce 2 none)) B.pre
  have hts : ∀ w ∈ zz_GW, w.before _ s = true := fun w h => hts0 w (List.mem_cons_of_mem _ h)
  clear hts0
  have hown : s.vm.findClass "StructureRows$Reduction" = some m.cls := findClass_of_methodNamed B.named
  have hlocks := B.notSynchronized
  have C0 : cx_RD_reduce p s m _ meth c := ⟨hx, hb, hr, hml, hown, hts, hlocks⟩
  subst hsz
  have hD := hD0.self (sz := s.heap.size)
  generalize hAe : va_A [(q_this, .inr (2, [.ref q_cells, .ref q_beginnings, .int x_height, .int x_width, .int x_imageHeight])), (q_cells, .inl (k_cells, 32, .inr (.inl x_cells))), (q_beginnings, .inl (k_beginnings, 4, .inl x_beginnings))] s.heap.size = A at hD ⊢
  have hA : ∀ q : Nat, s.heap.size ≤ q → A q := fun q h => by rw [← hAe]; exact Or.inr h
  clear hAe hD0
  have hS : va_S A s.heap s.heap [] := va_S.rf
  have hl := lv_entry ([.ref q_this]) (n := 2) (Nat.le_of_ble_eq_true rfl)
  rw [lg_entry_eq]
  generalize (lg_sl ([.ref q_this]) ++ List.replicate (2 - (lg_sl ([.ref q_this])).length) Slot.unset).toArray = ls at hl ⊢
  replace hl : lv_has ls 2 [(0, .ref q_this)] := hl
  unfold wp_RD_reduce at hw
  change W p l e rm_RD_reduce s m _ below meth c s.heap [] 0 0 _ _
  refine lv_iconst (v := 0) hx hb d_RD_reduce_0 (by decide) ?_
  refine lv_istore_n (lv' := [(1, .int 0), (0, .ref q_this)]) hx hb d_RD_reduce_1 rfl hl (by decide) rfl (fun ls hl => ?_)
  exact k_RD_reduce_2 C0 hA hK hw hP hD hS (lv_sub hl [1, 0] rfl)
set_option maxHeartbeats 4000000 in
set_option maxRecDepth 100000 in
theorem go_RD_reduce {p : Program} {l : Launch} {e : Env} {R : Room} {s : State} {m : MethodId} {args : Array Value} {below : List Frame} {meth : Method} {c : Code} {H : Heap} {locs : List Loc} {cells slots : Nat} {Q : State → Prop} {cc : ByteArray} {nL : Nat} {Ts : List Cond} {own : String} {index : Nat} {A0 : Nat → Prop} {H0 : Heap} {dC : Nat → ClassId} {dI : Nat → Nat → Nat} {ws wr : va_W} {tys : List (ClassId × FieldType)} {q_this q_cells q_beginnings : Nat} {k_cells k_beginnings : ClassId} {x_height : Int32} {x_width : Int32} {x_imageHeight : Int32} {x_cells : Nat → Int64} {x_beginnings : Nat → Int32}  {post : Int32 → (Nat → Int64) → (Nat → Int32) → Prop} (S : CallFix p m c cc nL s args Ts own) (cw : CallW R s args own "StructureRows$Reduction" index y_RD_reduce b_RD_reduce 2 none (zz_w y_RD_reduce b_RD_reduce 2 none) rm_RD_reduce 0 0 0) (hK : va_K (dC, dI) zz_cl tys s) (hP : va_P (dC, dI) zz_cl ws H) (hD : va_D A0 ws) (hS : va_S A0 H0 H locs) (hA : ∀ q, H0.size ≤ q → A0 q) (isC isR kt : List Nat) (h1 : isC.filterMap (fun i => ws[i]?) = [(q_this, .inr (2, [.ref q_cells, .ref q_beginnings, .int x_height, .int x_width, .int x_imageHeight])), (q_cells, .inl (k_cells, 32, .inr (.inl x_cells))), (q_beginnings, .inl (k_beginnings, 4, .inl x_beginnings))]) (h2 : isC.map (fun i => ws[i]?) = ([(q_this, .inr (2, [.ref q_cells, .ref q_beginnings, .int x_height, .int x_width, .int x_imageHeight])), (q_cells, .inl (k_cells, 32, .inr (.inl x_cells))), (q_beginnings, .inl (k_beginnings, 4, .inl x_beginnings))] : va_W).map some) (h3 : va_nd isC = true) (h4 : isR.map (fun i => ws[i]?) = wr.map some) (h5 : va_nd isR = true) (h6 : ∀ i ∈ isR, i ∉ isC) (h7 : kt.filterMap (fun i => tys[i]?) = [(k_cells, .long), (k_beginnings, .int)]) (hw : wp_RD_reduce x_height x_width x_imageHeight x_cells x_beginnings post) {pc : Nat} {ls : Array Slot} {rest : List Value} (hsize : ls.size = nL) (hrest : (rest.map fun v => v.category).sum ≤ 8) (hdg : decode cc pc = .ok (.invokevirtual index, 3)) (hf : cells + 0 ≤ R.cells ∧ slots + 0 ≤ R.slots) (kk : ∀ (m0 : Int32) (m1 : Nat → Int64) (m2 : Nat → Int32) (H1 : Heap) (locs1 : List Loc), post m0 m1 m2 → va_P (dC, dI) zz_cl (wr ++ [(q_this, .inr (2, [.ref q_cells, .ref q_beginnings, .int x_height, .int x_width, .int m0])), (q_cells, .inl (k_cells, 32, .inr (.inl m1))), (q_beginnings, .inl (k_beginnings, 4, .inl m2))]) H1 → va_D A0 (wr ++ [(q_this, .inr (2, [.ref q_cells, .ref q_beginnings, .int x_height, .int x_width, .int m0])), (q_cells, .inl (k_cells, 32, .inr (.inl m1))), (q_beginnings, .inl (k_beginnings, 4, .inl m2))]) → va_S A0 H0 H1 locs1 → W p l e R s m args below meth c H1 locs1 (cells + 0) (slots + 0) Q (F0 m (pc + 3) ls rest)) : W p l e R s m args below meth c H locs cells slots Q (F0 m pc ls (.ref q_this :: rest)) := by
  have hPc := hP.sub (ws' := [(q_this, .inr (2, [.ref q_cells, .ref q_beginnings, .int x_height, .int x_width, .int x_imageHeight])), (q_cells, .inl (k_cells, 32, .inr (.inl x_cells))), (q_beginnings, .inl (k_beginnings, 4, .inl x_beginnings))]) isC h1
  have hDc := hD.sub (ws' := [(q_this, .inr (2, [.ref q_cells, .ref q_beginnings, .int x_height, .int x_width, .int x_imageHeight])), (q_cells, .inl (k_cells, 32, .inr (.inl x_cells))), (q_beginnings, .inl (k_beginnings, 4, .inl x_beginnings))]) isC h3 h2
  have hKc := hK.sub (tys' := [(k_cells, .long), (k_beginnings, .int)]) kt h7
  have hFc := va_free (wc := [(q_this, .inr (2, [.ref q_cells, .ref q_beginnings, .int x_height, .int x_width, .int x_imageHeight])), (q_cells, .inl (k_cells, 32, .inr (.inl x_cells))), (q_beginnings, .inl (k_beginnings, 4, .inl x_beginnings))]) hD hS hA isC h2
  refine va_callv (va_runV (As := []) (rest := rest) S (c_RD_reduce l dC dI q_this q_cells q_beginnings k_cells k_beginnings H.size x_height x_width x_imageHeight x_cells x_beginnings post hw) cw ⟨zz_blind, va_recv hKc hPc (ci := 2) (q0 := 0) rfl rfl, fun U hU hW => ⟨rfl, by rw [hU], by rw [hU]; exact hPc, va_K.moved hW.alike hKc, hDc.weaken (fun _ _ _ _ => trivial)⟩⟩ rfl rfl hsize rfl (lv_room hrest) hdg hf) hS (fun q _ h => hFc q h) hFc (fun u t H1 locs ht hvm hw hB hz1 hk1 hS => ?_)
  obtain ⟨hP1, hK1, hD1⟩ := hB
  rw [ht] at hP1
  obtain ⟨hP2, hD2⟩ := va_join (wr := wr) (w1 := [(q_this, .inr (2, [.ref q_cells, .ref q_beginnings, .int x_height, .int x_width, .int u.1])), (q_cells, .inl (k_cells, 32, .inr (.inl u.2.1))), (q_beginnings, .inl (k_beginnings, 4, .inl u.2.2))]) hP hD isC isR h2 h4 h5 h6 hk1 hFc hP1 hD1
  exact kk u.1 u.2.1 u.2.2 H1 locs hw hP2 hD2 hS
abbrev rm_MA_min : Room := { frames := 0, cells := 0, slots := 0, locals := 0 }
abbrev qz_MA_min (dC : Nat → ClassId) (dI : Nat → Nat → Nat)  (post : Int32 → Prop) (A : Nat → Prop) : Array Value → State → Outcome → State → Prop := va_Qi (fun (r : Int32) (_ : Unit) => post r) (fun (u : Unit) (t : State) => va_P (dC, dI) zz_cl [] t.heap ∧ va_K (dC, dI) zz_cl [] t ∧ va_D A []) A
def cx_MA_min (p : Program) (s : State) (m : MethodId) (args : Array Value) (meth : Method) (c : Code) : Prop := p.tables.exec = Jvm.exec ∧ c.code = b_MA_min ∧ meth.sig.returnType = (some .int) ∧ c.maxLocals = 2 ∧ s.vm.findClass "java/lang/Math" = some m.cls ∧ (∀ w ∈ zz_GW, w.before args s = true) ∧ meth.locks = false
def wp_MA_min  (a_0 : Int32) (a_1 : Int32) (post : Int32 → Prop) : Prop := (a_1 < a_0 → (post a_1)) ∧ (¬ a_1 < a_0 → (post a_0))
set_option maxHeartbeats 4000000 in
set_option maxRecDepth 100000 in
theorem c_MA_min (l : Launch) (dC : Nat → ClassId) (dI : Nat → Nat → Nat) (sz : Nat)  (a_0 : Int32) (a_1 : Int32) (post : Int32 → Prop) (hw : wp_MA_min a_0 a_1 post) : Met l y_MA_min (zz_w y_MA_min b_MA_min 2 (some .int)) rm_MA_min (va_Pc [.int a_0, .int a_1] (fun U => U.heap.size = sz ∧ va_P (dC, dI) zz_cl [] U.heap ∧ va_K (dC, dI) zz_cl [] U ∧ va_D (fun _ => True) [])) (qz_MA_min dC dI post (va_A [] sz)) 0 0 (va_A [] sz) := by
  refine va_MetF (cc := b_MA_min) (maxL := 2) (ret := (some .int)) (by decide +kernel) rfl ?_
  intro p e s m args below meth c s₁ B hml hv
  obtain ⟨rfl, hsz, hP, hK, hD0⟩ := hv
  have hx := B.exec
  have hb := B.bytes
  have hr := B.returns
  have hts0 := atoms_spec (ws := (zz_w y_MA_min b_MA_min 2 (some .int))) B.pre
  have hts : ∀ w ∈ zz_GW, w.before _ s = true := fun w h => hts0 w (List.mem_cons_of_mem _ h)
  clear hts0
  have hown : s.vm.findClass "java/lang/Math" = some m.cls := findClass_of_methodNamed B.named
  have hlocks := B.notSynchronized
  have C0 : cx_MA_min p s m _ meth c := ⟨hx, hb, hr, hml, hown, hts, hlocks⟩
  subst hsz
  have hD := hD0.self (sz := s.heap.size)
  generalize hAe : va_A [] s.heap.size = A at hD ⊢
  have hA : ∀ q : Nat, s.heap.size ≤ q → A q := fun q h => by rw [← hAe]; exact Or.inr h
  clear hAe hD0
  have hS : va_S A s.heap s.heap [] := va_S.rf
  have hl := lv_entry ([.int a_0, .int a_1]) (n := 2) (Nat.le_of_ble_eq_true rfl)
  rw [lg_entry_eq]
  generalize (lg_sl ([.int a_0, .int a_1]) ++ List.replicate (2 - (lg_sl ([.int a_0, .int a_1])).length) Slot.unset).toArray = ls at hl ⊢
  replace hl : lv_has ls 2 [(0, .int a_0), (1, .int a_1)] := hl
  unfold wp_MA_min at hw
  change W p l e rm_MA_min s m _ below meth c s.heap [] 0 0 _ _
  refine lv_iload_n hx hb d_MA_min_0 rfl (lv_at hl 0 rfl) ?_
  refine lv_iload_n hx hb d_MA_min_1 rfl (lv_at hl 1 rfl) ?_
  refine lv_icmp_gt (tgt := 9) hx hb d_MA_min_2 (by decide) (fun h_1 => ?_) (fun h_1 => ?_)
  · replace hw := hw.1 h_1
    refine lv_iload_n hx hb d_MA_min_9 rfl (lv_at hl 1 rfl) ?_
    exact W.iret (v := a_1) hx hb hr (fun t ht hW => ⟨⟨a_1, (), rfl, hw, by rw [ht]; exact hP, va_K.moved hW.alike hK, hD⟩, hS.F ht⟩) hS.2.2 d_MA_min_10
  · replace hw := hw.2 h_1
    refine lv_iload_n hx hb d_MA_min_5 rfl (lv_at hl 0 rfl) ?_
    refine lv_goto (tgt := 10) hx hb d_MA_min_6 (by decide) ?_
    exact W.iret (v := a_0) hx hb hr (fun t ht hW => ⟨⟨a_0, (), rfl, hw, by rw [ht]; exact hP, va_K.moved hW.alike hK, hD⟩, hS.F ht⟩) hS.2.2 d_MA_min_10
set_option maxHeartbeats 4000000 in
set_option maxRecDepth 100000 in
theorem go_MA_min {p : Program} {l : Launch} {e : Env} {R : Room} {s : State} {m : MethodId} {args : Array Value} {below : List Frame} {meth : Method} {c : Code} {H : Heap} {locs : List Loc} {cells slots : Nat} {Q : State → Prop} {cc : ByteArray} {nL : Nat} {Ts : List Cond} {own : String} {index : Nat} {A0 : Nat → Prop} {H0 : Heap} {dC : Nat → ClassId} {dI : Nat → Nat → Nat} {ws wr : va_W} {tys : List (ClassId × FieldType)}  {a_0 : Int32} {a_1 : Int32} {post : Int32 → Prop} (S : CallFix p m c cc nL s args Ts own) (cw : CallB R s args own index y_MA_min b_MA_min 2 (some .int) (zz_w y_MA_min b_MA_min 2 (some .int)) rm_MA_min 0 0 2 ∧ (Cond.static y_MA_min).before args s = true) (hK : va_K (dC, dI) zz_cl tys s) (hP : va_P (dC, dI) zz_cl ws H) (hD : va_D A0 ws) (hS : va_S A0 H0 H locs) (hA : ∀ q, H0.size ≤ q → A0 q) (isC isR kt : List Nat) (h1 : isC.filterMap (fun i => ws[i]?) = []) (h2 : isC.map (fun i => ws[i]?) = ([] : va_W).map some) (h3 : va_nd isC = true) (h4 : isR.map (fun i => ws[i]?) = wr.map some) (h5 : va_nd isR = true) (h6 : ∀ i ∈ isR, i ∉ isC) (h7 : kt.filterMap (fun i => tys[i]?) = []) (hw : wp_MA_min a_0 a_1 post) {pc : Nat} {ls : Array Slot} {rest : List Value} (hsize : ls.size = nL) (hrest : (rest.map fun v => v.category).sum ≤ 8) (hdg : decode cc pc = .ok (.invokestatic index, 3)) (hf : cells + 0 ≤ R.cells ∧ slots + 0 ≤ R.slots) (kk : ∀ (r : Int32) (H1 : Heap) (locs1 : List Loc), post r → va_P (dC, dI) zz_cl (wr ++ []) H1 → va_D A0 (wr ++ []) → va_S A0 H0 H1 locs1 → W p l e R s m args below meth c H1 locs1 (cells + 0) (slots + 0) Q (F0 m (pc + 3) ls (.int r :: rest))) : W p l e R s m args below meth c H locs cells slots Q (F0 m pc ls (.int a_1 :: .int a_0 :: rest)) := by
  have hPc := hP.sub (ws' := []) isC h1
  have hDc := hD.sub (ws' := []) isC h3 h2
  have hKc := hK.sub (tys' := []) kt h7
  have hFc := va_free (wc := []) hD hS hA isC h2
  refine va_calli (va_runS (As := [.int a_0, .int a_1]) (rest := rest) S (c_MA_min l dC dI H.size a_0 a_1 post hw) cw ⟨zz_blind, fun U hU hW => ⟨rfl, by rw [hU], by rw [hU]; exact hPc, va_K.moved hW.alike hKc, hDc.weaken (fun _ _ _ _ => trivial)⟩⟩ rfl rfl hsize rfl (lv_room hrest) hdg hf) hS (fun q _ h => hFc q h) hFc (fun r u t H1 locs ht hvm hw hB hz1 hk1 hS => ?_)
  obtain ⟨hP1, hK1, hD1⟩ := hB
  rw [ht] at hP1
  obtain ⟨hP2, hD2⟩ := va_join (wr := wr) (w1 := []) hP hD isC isR h2 h4 h5 h6 hk1 hFc hP1 hD1
  exact kk r H1 locs hw hP2 hD2 hS
abbrev rm_MA_max : Room := { frames := 0, cells := 0, slots := 0, locals := 0 }
abbrev qz_MA_max (dC : Nat → ClassId) (dI : Nat → Nat → Nat)  (post : Int32 → Prop) (A : Nat → Prop) : Array Value → State → Outcome → State → Prop := va_Qi (fun (r : Int32) (_ : Unit) => post r) (fun (u : Unit) (t : State) => va_P (dC, dI) zz_cl [] t.heap ∧ va_K (dC, dI) zz_cl [] t ∧ va_D A []) A
def cx_MA_max (p : Program) (s : State) (m : MethodId) (args : Array Value) (meth : Method) (c : Code) : Prop := p.tables.exec = Jvm.exec ∧ c.code = b_MA_max ∧ meth.sig.returnType = (some .int) ∧ c.maxLocals = 2 ∧ s.vm.findClass "java/lang/Math" = some m.cls ∧ (∀ w ∈ zz_GW, w.before args s = true) ∧ meth.locks = false
def wp_MA_max  (a_0 : Int32) (a_1 : Int32) (post : Int32 → Prop) : Prop := (a_0 < a_1 → (post a_1)) ∧ (¬ a_0 < a_1 → (post a_0))
set_option maxHeartbeats 4000000 in
set_option maxRecDepth 100000 in
theorem c_MA_max (l : Launch) (dC : Nat → ClassId) (dI : Nat → Nat → Nat) (sz : Nat)  (a_0 : Int32) (a_1 : Int32) (post : Int32 → Prop) (hw : wp_MA_max a_0 a_1 post) : Met l y_MA_max (zz_w y_MA_max b_MA_max 2 (some .int)) rm_MA_max (va_Pc [.int a_0, .int a_1] (fun U => U.heap.size = sz ∧ va_P (dC, dI) zz_cl [] U.heap ∧ va_K (dC, dI) zz_cl [] U ∧ va_D (fun _ => True) [])) (qz_MA_max dC dI post (va_A [] sz)) 0 0 (va_A [] sz) := by
  refine va_MetF (cc := b_MA_max) (maxL := 2) (ret := (some .int)) (by decide +kernel) rfl ?_
  intro p e s m args below meth c s₁ B hml hv
  obtain ⟨rfl, hsz, hP, hK, hD0⟩ := hv
  have hx := B.exec
  have hb := B.bytes
  have hr := B.returns
  have hts0 := atoms_spec (ws := (zz_w y_MA_max b_MA_max 2 (some .int))) B.pre
  have hts : ∀ w ∈ zz_GW, w.before _ s = true := fun w h => hts0 w (List.mem_cons_of_mem _ h)
  clear hts0
  have hown : s.vm.findClass "java/lang/Math" = some m.cls := findClass_of_methodNamed B.named
  have hlocks := B.notSynchronized
  have C0 : cx_MA_max p s m _ meth c := ⟨hx, hb, hr, hml, hown, hts, hlocks⟩
  subst hsz
  have hD := hD0.self (sz := s.heap.size)
  generalize hAe : va_A [] s.heap.size = A at hD ⊢
  have hA : ∀ q : Nat, s.heap.size ≤ q → A q := fun q h => by rw [← hAe]; exact Or.inr h
  clear hAe hD0
  have hS : va_S A s.heap s.heap [] := va_S.rf
  have hl := lv_entry ([.int a_0, .int a_1]) (n := 2) (Nat.le_of_ble_eq_true rfl)
  rw [lg_entry_eq]
  generalize (lg_sl ([.int a_0, .int a_1]) ++ List.replicate (2 - (lg_sl ([.int a_0, .int a_1])).length) Slot.unset).toArray = ls at hl ⊢
  replace hl : lv_has ls 2 [(0, .int a_0), (1, .int a_1)] := hl
  unfold wp_MA_max at hw
  change W p l e rm_MA_max s m _ below meth c s.heap [] 0 0 _ _
  refine lv_iload_n hx hb d_MA_max_0 rfl (lv_at hl 0 rfl) ?_
  refine lv_iload_n hx hb d_MA_max_1 rfl (lv_at hl 1 rfl) ?_
  refine lv_icmp_lt (tgt := 9) hx hb d_MA_max_2 (by decide) (fun h_1 => ?_) (fun h_1 => ?_)
  · replace hw := hw.1 h_1
    refine lv_iload_n hx hb d_MA_max_9 rfl (lv_at hl 1 rfl) ?_
    exact W.iret (v := a_1) hx hb hr (fun t ht hW => ⟨⟨a_1, (), rfl, hw, by rw [ht]; exact hP, va_K.moved hW.alike hK, hD⟩, hS.F ht⟩) hS.2.2 d_MA_max_10
  · replace hw := hw.2 h_1
    refine lv_iload_n hx hb d_MA_max_5 rfl (lv_at hl 0 rfl) ?_
    refine lv_goto (tgt := 10) hx hb d_MA_max_6 (by decide) ?_
    exact W.iret (v := a_0) hx hb hr (fun t ht hW => ⟨⟨a_0, (), rfl, hw, by rw [ht]; exact hP, va_K.moved hW.alike hK, hD⟩, hS.F ht⟩) hS.2.2 d_MA_max_10
set_option maxHeartbeats 4000000 in
set_option maxRecDepth 100000 in
theorem go_MA_max {p : Program} {l : Launch} {e : Env} {R : Room} {s : State} {m : MethodId} {args : Array Value} {below : List Frame} {meth : Method} {c : Code} {H : Heap} {locs : List Loc} {cells slots : Nat} {Q : State → Prop} {cc : ByteArray} {nL : Nat} {Ts : List Cond} {own : String} {index : Nat} {A0 : Nat → Prop} {H0 : Heap} {dC : Nat → ClassId} {dI : Nat → Nat → Nat} {ws wr : va_W} {tys : List (ClassId × FieldType)}  {a_0 : Int32} {a_1 : Int32} {post : Int32 → Prop} (S : CallFix p m c cc nL s args Ts own) (cw : CallB R s args own index y_MA_max b_MA_max 2 (some .int) (zz_w y_MA_max b_MA_max 2 (some .int)) rm_MA_max 0 0 2 ∧ (Cond.static y_MA_max).before args s = true) (hK : va_K (dC, dI) zz_cl tys s) (hP : va_P (dC, dI) zz_cl ws H) (hD : va_D A0 ws) (hS : va_S A0 H0 H locs) (hA : ∀ q, H0.size ≤ q → A0 q) (isC isR kt : List Nat) (h1 : isC.filterMap (fun i => ws[i]?) = []) (h2 : isC.map (fun i => ws[i]?) = ([] : va_W).map some) (h3 : va_nd isC = true) (h4 : isR.map (fun i => ws[i]?) = wr.map some) (h5 : va_nd isR = true) (h6 : ∀ i ∈ isR, i ∉ isC) (h7 : kt.filterMap (fun i => tys[i]?) = []) (hw : wp_MA_max a_0 a_1 post) {pc : Nat} {ls : Array Slot} {rest : List Value} (hsize : ls.size = nL) (hrest : (rest.map fun v => v.category).sum ≤ 8) (hdg : decode cc pc = .ok (.invokestatic index, 3)) (hf : cells + 0 ≤ R.cells ∧ slots + 0 ≤ R.slots) (kk : ∀ (r : Int32) (H1 : Heap) (locs1 : List Loc), post r → va_P (dC, dI) zz_cl (wr ++ []) H1 → va_D A0 (wr ++ []) → va_S A0 H0 H1 locs1 → W p l e R s m args below meth c H1 locs1 (cells + 0) (slots + 0) Q (F0 m (pc + 3) ls (.int r :: rest))) : W p l e R s m args below meth c H locs cells slots Q (F0 m pc ls (.int a_1 :: .int a_0 :: rest)) := by
  have hPc := hP.sub (ws' := []) isC h1
  have hDc := hD.sub (ws' := []) isC h3 h2
  have hKc := hK.sub (tys' := []) kt h7
  have hFc := va_free (wc := []) hD hS hA isC h2
  refine va_calli (va_runS (As := [.int a_0, .int a_1]) (rest := rest) S (c_MA_max l dC dI H.size a_0 a_1 post hw) cw ⟨zz_blind, fun U hU hW => ⟨rfl, by rw [hU], by rw [hU]; exact hPc, va_K.moved hW.alike hKc, hDc.weaken (fun _ _ _ _ => trivial)⟩⟩ rfl rfl hsize rfl (lv_room hrest) hdg hf) hS (fun q _ h => hFc q h) hFc (fun r u t H1 locs ht hvm hw hB hz1 hk1 hS => ?_)
  obtain ⟨hP1, hK1, hD1⟩ := hB
  rw [ht] at hP1
  obtain ⟨hP2, hD2⟩ := va_join (wr := wr) (w1 := []) hP hD isC isR h2 h4 h5 h6 hk1 hFc hP1 hD1
  exact kk r H1 locs hw hP2 hD2 hS
abbrev rm_RD_open : Room := { frames := 1, cells := 0, slots := 0, locals := 24 }
abbrev qz_RD_open (dC : Nat → ClassId) (dI : Nat → Nat → Nat) (q_this q_cells q_beginnings : Nat) (k_cells : ClassId) (x_imageHeight : Int32) (post : Int32 → Int32 → (Nat → Int64) → Prop) (A : Nat → Prop) : Array Value → State → Outcome → State → Prop := va_Qv (fun (u : Int32 × Int32 × (Nat → Int64)) => post u.1 u.2.1 u.2.2) (fun (u : Int32 × Int32 × (Nat → Int64)) (t : State) => va_P (dC, dI) zz_cl [(q_this, .inr (2, [.ref q_cells, .ref q_beginnings, .int u.1, .int u.2.1, .int x_imageHeight])), (q_cells, .inl (k_cells, 32, .inr (.inl u.2.2)))] t.heap ∧ va_K (dC, dI) zz_cl [(k_cells, .long)] t ∧ va_D A [(q_this, .inr (2, [.ref q_cells, .ref q_beginnings, .int u.1, .int u.2.1, .int x_imageHeight])), (q_cells, .inl (k_cells, 32, .inr (.inl u.2.2)))]) A
def cx_RD_open (p : Program) (s : State) (m : MethodId) (args : Array Value) (meth : Method) (c : Code) : Prop := p.tables.exec = Jvm.exec ∧ c.code = b_RD_open ∧ meth.sig.returnType = none ∧ c.maxLocals = 4 ∧ s.vm.findClass "StructureRows$Reduction" = some m.cls ∧ (∀ w ∈ zz_GW, w.before args s = true) ∧ meth.locks = false
def wp_RD_open_49b (x_height : Int32) (x_width : Int32) (x_imageHeight : Int32) (post : Int32 → Int32 → (Nat → Int64) → Prop)  (P : (Nat → Int64) → Int32 → Prop) (x_cells : Nat → Int64) (u_3 : Int32) : Prop := (x_height ≤ u_3 → (post x_height x_width x_cells)) ∧ (¬ x_height ≤ u_3 → (wp_RD_set x_height x_width x_imageHeight x_cells u_3 (x_width + u_3) 1 (fun (m_7 : Nat → Int64) => (∀ v_8 : Int32, v_8 = u_3 + 1 → (P m_7 v_8)))))
def wp_RD_open_49 (x_height : Int32) (x_width : Int32) (x_imageHeight : Int32) (post : Int32 → Int32 → (Nat → Int64) → Prop)  (x_cells : Nat → Int64) (u_3 : Int32) : Prop := ∀ P : (Nat → Int64) → Int32 → Prop, (∀ (x_cells : Nat → Int64) (u_3 : Int32), wp_RD_open_49b x_height x_width x_imageHeight post P x_cells u_3 → P x_cells u_3) → P x_cells u_3
set_option maxHeartbeats 4000000 in
set_option maxRecDepth 100000 in
theorem k_RD_open_49 {p : Program} {l : Launch} {e : Env} {s : State} {m : MethodId} {args : Array Value} {below : List Frame} {meth : Method} {c : Code} {dC : Nat → ClassId} {dI : Nat → Nat → Nat} {A : Nat → Prop} {q_this q_cells q_beginnings : Nat} {k_cells : ClassId} {x_height : Int32} {x_width : Int32} {x_imageHeight : Int32} {post : Int32 → Int32 → (Nat → Int64) → Prop}  (C0 : cx_RD_open p s m args meth c) (hA : ∀ q : Nat, s.heap.size ≤ q → A q) (hK : va_K (dC, dI) zz_cl [(k_cells, .long)] s) {x_cells : Nat → Int64} {u_3 : Int32} (hw : wp_RD_open_49 x_height x_width x_imageHeight post x_cells u_3) {H : Heap} {locs : List Loc} {ls : Array Slot} (hP : va_P (dC, dI) zz_cl [(q_this, .inr (2, [.ref q_cells, .ref q_beginnings, .int x_height, .int x_width, .int x_imageHeight])), (q_cells, .inl (k_cells, 32, .inr (.inl x_cells)))] H) (hD : va_D A [(q_this, .inr (2, [.ref q_cells, .ref q_beginnings, .int x_height, .int x_width, .int x_imageHeight])), (q_cells, .inl (k_cells, 32, .inr (.inl x_cells)))]) (hS : va_S A s.heap H locs) (hl : lv_has ls 4 [(0, .ref q_this), (3, .int u_3)]) : W p l e rm_RD_open s m args below meth c H locs 0 0 (MQ below (qz_RD_open dC dI q_this q_cells q_beginnings k_cells x_imageHeight post A) args s 0 0 A) (F0 m 49 ls []) := by
  have C1 := C0
  obtain ⟨hx, hb, hr, hml, hown, hts, hlocks⟩ := C1
  refine hw (fun (x_cells : Nat → Int64) (u_3 : Int32) => ∀ (H : Heap) (locs : List Loc) (ls : Array Slot), va_P (dC, dI) zz_cl [(q_this, .inr (2, [.ref q_cells, .ref q_beginnings, .int x_height, .int x_width, .int x_imageHeight])), (q_cells, .inl (k_cells, 32, .inr (.inl x_cells)))] H → va_D A [(q_this, .inr (2, [.ref q_cells, .ref q_beginnings, .int x_height, .int x_width, .int x_imageHeight])), (q_cells, .inl (k_cells, 32, .inr (.inl x_cells)))] → va_S A s.heap H locs → lv_has ls 4 [(0, .ref q_this), (3, .int u_3)] → W p l e rm_RD_open s m args below meth c H locs 0 0 (MQ below (qz_RD_open dC dI q_this q_cells q_beginnings k_cells x_imageHeight post A) args s 0 0 A) (F0 m 49 ls [])) ?_ H locs ls hP hD hS hl
  clear hw hP hD hS hl H locs ls
  intro x_cells u_3 hw H locs ls hP hD hS hl
  unfold wp_RD_open_49b at hw
  refine lv_iload_n hx hb d_RD_open_49 rfl (lv_at hl 1 rfl) ?_
  refine lv_aload_n hx hb d_RD_open_50 rfl (lv_at hl 0 rfl) ?_
  refine va_get (D := (dC, dI)) (ci := 2) (v := .int x_height) (C := "StructureRows$Reduction") (T := T_RD) (N := 5) hx hb hts in_RD hown hK hP 0 rfl rfl 2 (by decide) (hts _ tw_60) (fun _ h9 => h9) rfl d_RD_open_51 ?_
  refine lv_icmp_ge (tgt := 75) hx hb d_RD_open_54 (by decide) (fun h_6 => ?_) (fun h_6 => ?_)
  · replace hw := hw.1 h_6
    exact W.vret hx hb hr (fun t ht hW => ⟨⟨(x_height, x_width, x_cells), rfl, hw, by rw [ht]; exact hP, va_K.moved hW.alike hK, hD⟩, hS.F ht⟩) hS.2.2 d_RD_open_75
  · replace hw := hw.2 h_6
    refine lv_aload_n hx hb d_RD_open_57 rfl (lv_at hl 0 rfl) ?_
    refine lv_iload_n hx hb d_RD_open_58 rfl (lv_at hl 1 rfl) ?_
    refine lv_aload_n hx hb d_RD_open_59 rfl (lv_at hl 0 rfl) ?_
    refine va_get (D := (dC, dI)) (ci := 2) (v := .int x_width) (C := "StructureRows$Reduction") (T := T_RD) (N := 5) hx hb hts in_RD hown hK hP 0 rfl rfl 3 (by decide) (hts _ tw_61) (fun _ h9 => h9) rfl d_RD_open_60 ?_
    refine lv_iload_n hx hb d_RD_open_63 rfl (lv_at hl 1 rfl) ?_
    refine lv_iadd hx hb d_RD_open_64 ?_
    refine lv_lconst (v := 1) hx hb d_RD_open_65 (by decide) ?_
    refine go_RD_set (wr := []) ⟨hx, hb, hml, hown, hts⟩ (zz_cwV 3 hts tw_151 tw_148 tw_149 tw_150 tw_32 ⟨by decide, by decide, by decide +kernel⟩ ⟨Nat.le_of_ble_eq_true rfl, Nat.le_of_ble_eq_true rfl⟩) hK hP hD hS hA [0, 1] [] [0] rfl rfl (by decide) rfl (by decide) (by decide) rfl hw hl.1 (Nat.le_of_ble_eq_true rfl) d_RD_open_66 ⟨Nat.le_of_ble_eq_true rfl, Nat.le_of_ble_eq_true rfl⟩ (fun m_7 H locs hw hP hD hS => ?_)
    replace hP : va_P (dC, dI) zz_cl [(q_this, .inr (2, [.ref q_cells, .ref q_beginnings, .int x_height, .int x_width, .int x_imageHeight])), (q_cells, .inl (k_cells, 32, .inr (.inl m_7)))] H := hP
    replace hD : va_D A [(q_this, .inr (2, [.ref q_cells, .ref q_beginnings, .int x_height, .int x_width, .int x_imageHeight])), (q_cells, .inl (k_cells, 32, .inr (.inl m_7)))] := hD
    obtain ⟨v_8, ev_8⟩ : ∃ y : Int32, y = u_3 + 1 := ⟨_, rfl⟩
    replace hw := hw v_8 ev_8
    refine lv_iinc (v := v_8) (lv' := [(3, .int v_8), (0, .ref q_this)]) hx hb d_RD_open_69 hl (k := 1) rfl (by rw [ev_8]; rfl) (by decide) rfl (fun ls hl => ?_)
    refine lv_goto (tgt := 49) hx hb d_RD_open_72 (by decide) ?_
    exact hw H locs ls hP hD hS (lv_sub hl [1, 0] rfl)
def wp_RD_open_28b (x_height : Int32) (x_width : Int32) (x_imageHeight : Int32) (post : Int32 → Int32 → (Nat → Int64) → Prop)  (P : (Nat → Int64) → Int32 → Prop) (x_cells : Nat → Int64) (u_3 : Int32) : Prop := (32 ≤ u_3 → (wp_RD_open_49 x_height x_width x_imageHeight post x_cells 0)) ∧ (¬ 32 ≤ u_3 → (vp_in u_3 32 ∧ ∀ w_10 : Nat → Int64, w_10 = vp_updL x_cells u_3.toNatClampNeg 0 → (∀ v_11 : Int32, v_11 = u_3 + 1 → (P w_10 v_11))))
def wp_RD_open_28 (x_height : Int32) (x_width : Int32) (x_imageHeight : Int32) (post : Int32 → Int32 → (Nat → Int64) → Prop)  (x_cells : Nat → Int64) (u_3 : Int32) : Prop := ∀ P : (Nat → Int64) → Int32 → Prop, (∀ (x_cells : Nat → Int64) (u_3 : Int32), wp_RD_open_28b x_height x_width x_imageHeight post P x_cells u_3 → P x_cells u_3) → P x_cells u_3
set_option maxHeartbeats 4000000 in
set_option maxRecDepth 100000 in
theorem k_RD_open_28 {p : Program} {l : Launch} {e : Env} {s : State} {m : MethodId} {args : Array Value} {below : List Frame} {meth : Method} {c : Code} {dC : Nat → ClassId} {dI : Nat → Nat → Nat} {A : Nat → Prop} {q_this q_cells q_beginnings : Nat} {k_cells : ClassId} {x_height : Int32} {x_width : Int32} {x_imageHeight : Int32} {post : Int32 → Int32 → (Nat → Int64) → Prop}  (C0 : cx_RD_open p s m args meth c) (hA : ∀ q : Nat, s.heap.size ≤ q → A q) (hK : va_K (dC, dI) zz_cl [(k_cells, .long)] s) {x_cells : Nat → Int64} {u_3 : Int32} (hw : wp_RD_open_28 x_height x_width x_imageHeight post x_cells u_3) {H : Heap} {locs : List Loc} {ls : Array Slot} (hP : va_P (dC, dI) zz_cl [(q_this, .inr (2, [.ref q_cells, .ref q_beginnings, .int x_height, .int x_width, .int x_imageHeight])), (q_cells, .inl (k_cells, 32, .inr (.inl x_cells)))] H) (hD : va_D A [(q_this, .inr (2, [.ref q_cells, .ref q_beginnings, .int x_height, .int x_width, .int x_imageHeight])), (q_cells, .inl (k_cells, 32, .inr (.inl x_cells)))]) (hS : va_S A s.heap H locs) (hl : lv_has ls 4 [(0, .ref q_this), (3, .int u_3)]) : W p l e rm_RD_open s m args below meth c H locs 0 0 (MQ below (qz_RD_open dC dI q_this q_cells q_beginnings k_cells x_imageHeight post A) args s 0 0 A) (F0 m 28 ls []) := by
  have C1 := C0
  obtain ⟨hx, hb, hr, hml, hown, hts, hlocks⟩ := C1
  refine hw (fun (x_cells : Nat → Int64) (u_3 : Int32) => ∀ (H : Heap) (locs : List Loc) (ls : Array Slot), va_P (dC, dI) zz_cl [(q_this, .inr (2, [.ref q_cells, .ref q_beginnings, .int x_height, .int x_width, .int x_imageHeight])), (q_cells, .inl (k_cells, 32, .inr (.inl x_cells)))] H → va_D A [(q_this, .inr (2, [.ref q_cells, .ref q_beginnings, .int x_height, .int x_width, .int x_imageHeight])), (q_cells, .inl (k_cells, 32, .inr (.inl x_cells)))] → va_S A s.heap H locs → lv_has ls 4 [(0, .ref q_this), (3, .int u_3)] → W p l e rm_RD_open s m args below meth c H locs 0 0 (MQ below (qz_RD_open dC dI q_this q_cells q_beginnings k_cells x_imageHeight post A) args s 0 0 A) (F0 m 28 ls [])) ?_ H locs ls hP hD hS hl
  clear hw hP hD hS hl H locs ls
  intro x_cells u_3 hw H locs ls hP hD hS hl
  unfold wp_RD_open_28b at hw
  refine lv_iload_n hx hb d_RD_open_28 rfl (lv_at hl 1 rfl) ?_
  refine lv_bipush (v := 32) hx hb d_RD_open_29 (by decide) ?_
  refine lv_icmp_ge (tgt := 47) hx hb d_RD_open_31 (by decide) (fun h_5 => ?_) (fun h_5 => ?_)
  · replace hw := hw.1 h_5
    refine lv_iconst (v := 0) hx hb d_RD_open_47 (by decide) ?_
    refine lv_istore_n (lv' := [(3, .int 0), (0, .ref q_this)]) hx hb d_RD_open_48 rfl hl (by decide) rfl (fun ls hl => ?_)
    exact k_RD_open_49 C0 hA hK hw hP hD hS (lv_sub hl [1, 0] rfl)
  · replace hw := hw.2 h_5
    refine lv_aload_n hx hb d_RD_open_34 rfl (lv_at hl 0 rfl) ?_
    refine va_get (D := (dC, dI)) (ci := 2) (v := .ref q_cells) (C := "StructureRows$Reduction") (T := T_RD) (N := 5) hx hb hts in_RD hown hK hP 0 rfl rfl 0 (by decide) (hts _ tw_58) (fun _ h9 => h9) rfl d_RD_open_35 ?_
    refine lv_iload_n hx hb d_RD_open_38 rfl (lv_at hl 1 rfl) ?_
    refine lv_lconst (v := 0) hx hb d_RD_open_39 (by decide) ?_
    obtain ⟨h_9, hw⟩ := hw
    obtain ⟨w_10, ew_10⟩ : ∃ y : Nat → Int64, y = vp_updL x_cells u_3.toNatClampNeg 0 := ⟨_, rfl⟩
    replace hw := hw w_10 ew_10
    refine va_last hx hb hK hP hD hS 1 0 rfl rfl h_9 d_RD_open_40 (fun H locs hP hD hS => ?_)
    rw [← ew_10] at hP hD
    replace hP : va_P (dC, dI) zz_cl [(q_this, .inr (2, [.ref q_cells, .ref q_beginnings, .int x_height, .int x_width, .int x_imageHeight])), (q_cells, .inl (k_cells, 32, .inr (.inl w_10)))] H := hP
    replace hD : va_D A [(q_this, .inr (2, [.ref q_cells, .ref q_beginnings, .int x_height, .int x_width, .int x_imageHeight])), (q_cells, .inl (k_cells, 32, .inr (.inl w_10)))] := hD
    obtain ⟨v_11, ev_11⟩ : ∃ y : Int32, y = u_3 + 1 := ⟨_, rfl⟩
    replace hw := hw v_11 ev_11
    refine lv_iinc (v := v_11) (lv' := [(3, .int v_11), (0, .ref q_this)]) hx hb d_RD_open_41 hl (k := 1) rfl (by rw [ev_11]; rfl) (by decide) rfl (fun ls hl => ?_)
    refine lv_goto (tgt := 28) hx hb d_RD_open_44 (by decide) ?_
    exact hw H locs ls hP hD hS (lv_sub hl [1, 0] rfl)
def wp_RD_open (x_height : Int32) (x_width : Int32) (x_imageHeight : Int32) (x_cells : Nat → Int64) (a_0 : Int32) (a_1 : Int32) (post : Int32 → Int32 → (Nat → Int64) → Prop) : Prop := wp_MA_min a_0 4 (fun (r_1 : Int32) => (wp_MA_max 0 r_1 (fun (r_2 : Int32) => (wp_MA_min a_1 4 (fun (r_3 : Int32) => (wp_MA_max 0 r_3 (fun (r_4 : Int32) => (wp_RD_open_28 r_2 r_4 x_imageHeight post x_cells 0))))))))
set_option maxHeartbeats 4000000 in
set_option maxRecDepth 100000 in
theorem c_RD_open (l : Launch) (dC : Nat → ClassId) (dI : Nat → Nat → Nat) (q_this q_cells q_beginnings : Nat) (k_cells : ClassId) (sz : Nat) (x_height : Int32) (x_width : Int32) (x_imageHeight : Int32) (x_cells : Nat → Int64) (a_0 : Int32) (a_1 : Int32) (post : Int32 → Int32 → (Nat → Int64) → Prop) (hw : wp_RD_open x_height x_width x_imageHeight x_cells a_0 a_1 post) : Met l y_RD_open (zz_w y_RD_open b_RD_open 4 none) rm_RD_open (va_Pc [.ref q_this, .int a_0, .int a_1] (fun U => U.heap.size = sz ∧ va_P (dC, dI) zz_cl [(q_this, .inr (2, [.ref q_cells, .ref q_beginnings, .int x_height, .int x_width, .int x_imageHeight])), (q_cells, .inl (k_cells, 32, .inr (.inl x_cells)))] U.heap ∧ va_K (dC, dI) zz_cl [(k_cells, .long)] U ∧ va_D (fun _ => True) [(q_this, .inr (2, [.ref q_cells, .ref q_beginnings, .int x_height, .int x_width, .int x_imageHeight])), (q_cells, .inl (k_cells, 32, .inr (.inl x_cells)))])) (qz_RD_open dC dI q_this q_cells q_beginnings k_cells x_imageHeight post (va_A [(q_this, .inr (2, [.ref q_cells, .ref q_beginnings, .int x_height, .int x_width, .int x_imageHeight])), (q_cells, .inl (k_cells, 32, .inr (.inl x_cells)))] sz)) 0 0 (va_A [(q_this, .inr (2, [.ref q_cells, .ref q_beginnings, .int x_height, .int x_width, .int x_imageHeight])), (q_cells, .inl (k_cells, 32, .inr (.inl x_cells)))] sz) := by
  refine Met.ofW (cc := b_RD_open) (maxL := 4) (ret := none) (by decide) rfl ?_
  intro p e s m args below meth c s₁ B hml hv
  obtain ⟨rfl, hsz, hP, hK, hD0⟩ := hv
  have hx := B.exec
  have hb := B.bytes
  have hr := B.returns
  have hts0 := atoms_spec (ws := (zz_w y_RD_open b_RD_open 4 none)) B.pre
  have hts : ∀ w ∈ zz_GW, w.before _ s = true := fun w h => hts0 w (List.mem_cons_of_mem _ h)
  clear hts0
  have hown : s.vm.findClass "StructureRows$Reduction" = some m.cls := findClass_of_methodNamed B.named
  have hlocks := B.notSynchronized
  have C0 : cx_RD_open p s m _ meth c := ⟨hx, hb, hr, hml, hown, hts, hlocks⟩
  subst hsz
  have hD := hD0.self (sz := s.heap.size)
  generalize hAe : va_A [(q_this, .inr (2, [.ref q_cells, .ref q_beginnings, .int x_height, .int x_width, .int x_imageHeight])), (q_cells, .inl (k_cells, 32, .inr (.inl x_cells)))] s.heap.size = A at hD ⊢
  have hA : ∀ q : Nat, s.heap.size ≤ q → A q := fun q h => by rw [← hAe]; exact Or.inr h
  clear hAe hD0
  have hS : va_S A s.heap s.heap [] := va_S.rf
  have hl := lv_entry ([.ref q_this, .int a_0, .int a_1]) (n := 4) (Nat.le_of_ble_eq_true rfl)
  rw [lg_entry_eq]
  generalize (lg_sl ([.ref q_this, .int a_0, .int a_1]) ++ List.replicate (4 - (lg_sl ([.ref q_this, .int a_0, .int a_1])).length) Slot.unset).toArray = ls at hl ⊢
  replace hl : lv_has ls 4 [(0, .ref q_this), (1, .int a_0), (2, .int a_1)] := hl
  unfold wp_RD_open at hw
  change W p l e rm_RD_open s m _ below meth c s.heap [] 0 0 _ _
  refine lv_aload_n hx hb d_RD_open_0 rfl (lv_at hl 0 rfl) ?_
  refine lv_iconst (v := 0) hx hb d_RD_open_1 (by decide) ?_
  refine lv_iload_n hx hb d_RD_open_2 rfl (lv_at hl 1 rfl) ?_
  refine lv_iconst (v := 4) hx hb d_RD_open_3 (by decide) ?_
  refine go_MA_min (wr := [(q_this, .inr (2, [.ref q_cells, .ref q_beginnings, .int x_height, .int x_width, .int x_imageHeight])), (q_cells, .inl (k_cells, 32, .inr (.inl x_cells)))]) ⟨hx, hb, hml, hown, hts⟩ (zz_cwS 2 hts tw_144 tw_142 tw_143 tw_42 ⟨by decide, by decide, by decide +kernel⟩ ⟨Nat.le_of_ble_eq_true rfl, Nat.le_of_ble_eq_true rfl⟩) hK hP hD hS hA [] [0, 1] [] rfl rfl (by decide) rfl (by decide) (by decide) rfl hw hl.1 (Nat.le_of_ble_eq_true rfl) d_RD_open_4 ⟨Nat.le_of_ble_eq_true rfl, Nat.le_of_ble_eq_true rfl⟩ (fun r_1 H locs hw hP hD hS => ?_)
  replace hP : va_P (dC, dI) zz_cl [(q_this, .inr (2, [.ref q_cells, .ref q_beginnings, .int x_height, .int x_width, .int x_imageHeight])), (q_cells, .inl (k_cells, 32, .inr (.inl x_cells)))] H := hP
  replace hD : va_D A [(q_this, .inr (2, [.ref q_cells, .ref q_beginnings, .int x_height, .int x_width, .int x_imageHeight])), (q_cells, .inl (k_cells, 32, .inr (.inl x_cells)))] := hD
  refine go_MA_max (wr := [(q_this, .inr (2, [.ref q_cells, .ref q_beginnings, .int x_height, .int x_width, .int x_imageHeight])), (q_cells, .inl (k_cells, 32, .inr (.inl x_cells)))]) ⟨hx, hb, hml, hown, hts⟩ (zz_cwS 2 hts tw_147 tw_145 tw_146 tw_42 ⟨by decide, by decide, by decide +kernel⟩ ⟨Nat.le_of_ble_eq_true rfl, Nat.le_of_ble_eq_true rfl⟩) hK hP hD hS hA [] [0, 1] [] rfl rfl (by decide) rfl (by decide) (by decide) rfl hw hl.1 (Nat.le_of_ble_eq_true rfl) d_RD_open_7 ⟨Nat.le_of_ble_eq_true rfl, Nat.le_of_ble_eq_true rfl⟩ (fun r_2 H locs hw hP hD hS => ?_)
  replace hP : va_P (dC, dI) zz_cl [(q_this, .inr (2, [.ref q_cells, .ref q_beginnings, .int x_height, .int x_width, .int x_imageHeight])), (q_cells, .inl (k_cells, 32, .inr (.inl x_cells)))] H := hP
  replace hD : va_D A [(q_this, .inr (2, [.ref q_cells, .ref q_beginnings, .int x_height, .int x_width, .int x_imageHeight])), (q_cells, .inl (k_cells, 32, .inr (.inl x_cells)))] := hD
  refine va_put (D := (dC, dI)) (ci := 2) (v := .int r_2) (ty := .int) (C := "StructureRows$Reduction") (T := T_RD) (N := 5) hx hb hts in_RD ty_RD tyok_RD nm_RD hown hK hP hD hS 0 rfl rfl 2 (by decide) (hts _ tw_60) (fun _ h9 => h9) rfl (by decide +kernel) rfl rfl (Nat.le_of_ble_eq_true rfl) d_RD_open_10 (fun H locs hP hD hS => ?_)
  replace hP : va_P (dC, dI) zz_cl [(q_this, .inr (2, [.ref q_cells, .ref q_beginnings, .int r_2, .int x_width, .int x_imageHeight])), (q_cells, .inl (k_cells, 32, .inr (.inl x_cells)))] H := hP
  replace hD : va_D A [(q_this, .inr (2, [.ref q_cells, .ref q_beginnings, .int r_2, .int x_width, .int x_imageHeight])), (q_cells, .inl (k_cells, 32, .inr (.inl x_cells)))] := hD
  refine lv_aload_n hx hb d_RD_open_13 rfl (lv_at hl 0 rfl) ?_
  refine lv_iconst (v := 0) hx hb d_RD_open_14 (by decide) ?_
  refine lv_iload_n hx hb d_RD_open_15 rfl (lv_at hl 2 rfl) ?_
  refine lv_iconst (v := 4) hx hb d_RD_open_16 (by decide) ?_
  refine go_MA_min (wr := [(q_this, .inr (2, [.ref q_cells, .ref q_beginnings, .int r_2, .int x_width, .int x_imageHeight])), (q_cells, .inl (k_cells, 32, .inr (.inl x_cells)))]) ⟨hx, hb, hml, hown, hts⟩ (zz_cwS 2 hts tw_144 tw_142 tw_143 tw_42 ⟨by decide, by decide, by decide +kernel⟩ ⟨Nat.le_of_ble_eq_true rfl, Nat.le_of_ble_eq_true rfl⟩) hK hP hD hS hA [] [0, 1] [] rfl rfl (by decide) rfl (by decide) (by decide) rfl hw hl.1 (Nat.le_of_ble_eq_true rfl) d_RD_open_17 ⟨Nat.le_of_ble_eq_true rfl, Nat.le_of_ble_eq_true rfl⟩ (fun r_3 H locs hw hP hD hS => ?_)
  replace hP : va_P (dC, dI) zz_cl [(q_this, .inr (2, [.ref q_cells, .ref q_beginnings, .int r_2, .int x_width, .int x_imageHeight])), (q_cells, .inl (k_cells, 32, .inr (.inl x_cells)))] H := hP
  replace hD : va_D A [(q_this, .inr (2, [.ref q_cells, .ref q_beginnings, .int r_2, .int x_width, .int x_imageHeight])), (q_cells, .inl (k_cells, 32, .inr (.inl x_cells)))] := hD
  refine go_MA_max (wr := [(q_this, .inr (2, [.ref q_cells, .ref q_beginnings, .int r_2, .int x_width, .int x_imageHeight])), (q_cells, .inl (k_cells, 32, .inr (.inl x_cells)))]) ⟨hx, hb, hml, hown, hts⟩ (zz_cwS 2 hts tw_147 tw_145 tw_146 tw_42 ⟨by decide, by decide, by decide +kernel⟩ ⟨Nat.le_of_ble_eq_true rfl, Nat.le_of_ble_eq_true rfl⟩) hK hP hD hS hA [] [0, 1] [] rfl rfl (by decide) rfl (by decide) (by decide) rfl hw hl.1 (Nat.le_of_ble_eq_true rfl) d_RD_open_20 ⟨Nat.le_of_ble_eq_true rfl, Nat.le_of_ble_eq_true rfl⟩ (fun r_4 H locs hw hP hD hS => ?_)
  replace hP : va_P (dC, dI) zz_cl [(q_this, .inr (2, [.ref q_cells, .ref q_beginnings, .int r_2, .int x_width, .int x_imageHeight])), (q_cells, .inl (k_cells, 32, .inr (.inl x_cells)))] H := hP
  replace hD : va_D A [(q_this, .inr (2, [.ref q_cells, .ref q_beginnings, .int r_2, .int x_width, .int x_imageHeight])), (q_cells, .inl (k_cells, 32, .inr (.inl x_cells)))] := hD
  refine va_put (D := (dC, dI)) (ci := 2) (v := .int r_4) (ty := .int) (C := "StructureRows$Reduction") (T := T_RD) (N := 5) hx hb hts in_RD ty_RD tyok_RD nm_RD hown hK hP hD hS 0 rfl rfl 3 (by decide) (hts _ tw_61) (fun _ h9 => h9) rfl (by decide +kernel) rfl rfl (Nat.le_of_ble_eq_true rfl) d_RD_open_23 (fun H locs hP hD hS => ?_)
  replace hP : va_P (dC, dI) zz_cl [(q_this, .inr (2, [.ref q_cells, .ref q_beginnings, .int r_2, .int r_4, .int x_imageHeight])), (q_cells, .inl (k_cells, 32, .inr (.inl x_cells)))] H := hP
  replace hD : va_D A [(q_this, .inr (2, [.ref q_cells, .ref q_beginnings, .int r_2, .int r_4, .int x_imageHeight])), (q_cells, .inl (k_cells, 32, .inr (.inl x_cells)))] := hD
  refine lv_iconst (v := 0) hx hb d_RD_open_26 (by decide) ?_
  refine lv_istore_n (lv' := [(3, .int 0), (0, .ref q_this), (1, .int a_0), (2, .int a_1)]) hx hb d_RD_open_27 rfl hl (by decide) rfl (fun ls hl => ?_)
  exact k_RD_open_28 C0 hA hK hw hP hD hS (lv_sub hl [1, 0] rfl)
set_option maxHeartbeats 4000000 in
set_option maxRecDepth 100000 in
theorem go_RD_open {p : Program} {l : Launch} {e : Env} {R : Room} {s : State} {m : MethodId} {args : Array Value} {below : List Frame} {meth : Method} {c : Code} {H : Heap} {locs : List Loc} {cells slots : Nat} {Q : State → Prop} {cc : ByteArray} {nL : Nat} {Ts : List Cond} {own : String} {index : Nat} {A0 : Nat → Prop} {H0 : Heap} {dC : Nat → ClassId} {dI : Nat → Nat → Nat} {ws wr : va_W} {tys : List (ClassId × FieldType)} {q_this q_cells q_beginnings : Nat} {k_cells : ClassId} {x_height : Int32} {x_width : Int32} {x_imageHeight : Int32} {x_cells : Nat → Int64} {a_0 : Int32} {a_1 : Int32} {post : Int32 → Int32 → (Nat → Int64) → Prop} (S : CallFix p m c cc nL s args Ts own) (cw : CallW R s args own "StructureRows$Reduction" index y_RD_open b_RD_open 4 none (zz_w y_RD_open b_RD_open 4 none) rm_RD_open 0 0 2) (hK : va_K (dC, dI) zz_cl tys s) (hP : va_P (dC, dI) zz_cl ws H) (hD : va_D A0 ws) (hS : va_S A0 H0 H locs) (hA : ∀ q, H0.size ≤ q → A0 q) (isC isR kt : List Nat) (h1 : isC.filterMap (fun i => ws[i]?) = [(q_this, .inr (2, [.ref q_cells, .ref q_beginnings, .int x_height, .int x_width, .int x_imageHeight])), (q_cells, .inl (k_cells, 32, .inr (.inl x_cells)))]) (h2 : isC.map (fun i => ws[i]?) = ([(q_this, .inr (2, [.ref q_cells, .ref q_beginnings, .int x_height, .int x_width, .int x_imageHeight])), (q_cells, .inl (k_cells, 32, .inr (.inl x_cells)))] : va_W).map some) (h3 : va_nd isC = true) (h4 : isR.map (fun i => ws[i]?) = wr.map some) (h5 : va_nd isR = true) (h6 : ∀ i ∈ isR, i ∉ isC) (h7 : kt.filterMap (fun i => tys[i]?) = [(k_cells, .long)]) (hw : wp_RD_open x_height x_width x_imageHeight x_cells a_0 a_1 post) {pc : Nat} {ls : Array Slot} {rest : List Value} (hsize : ls.size = nL) (hrest : (rest.map fun v => v.category).sum ≤ 8) (hdg : decode cc pc = .ok (.invokevirtual index, 3)) (hf : cells + 0 ≤ R.cells ∧ slots + 0 ≤ R.slots) (kk : ∀ (m0 : Int32) (m1 : Int32) (m2 : Nat → Int64) (H1 : Heap) (locs1 : List Loc), post m0 m1 m2 → va_P (dC, dI) zz_cl (wr ++ [(q_this, .inr (2, [.ref q_cells, .ref q_beginnings, .int m0, .int m1, .int x_imageHeight])), (q_cells, .inl (k_cells, 32, .inr (.inl m2)))]) H1 → va_D A0 (wr ++ [(q_this, .inr (2, [.ref q_cells, .ref q_beginnings, .int m0, .int m1, .int x_imageHeight])), (q_cells, .inl (k_cells, 32, .inr (.inl m2)))]) → va_S A0 H0 H1 locs1 → W p l e R s m args below meth c H1 locs1 (cells + 0) (slots + 0) Q (F0 m (pc + 3) ls rest)) : W p l e R s m args below meth c H locs cells slots Q (F0 m pc ls (.int a_1 :: .int a_0 :: .ref q_this :: rest)) := by
  have hPc := hP.sub (ws' := [(q_this, .inr (2, [.ref q_cells, .ref q_beginnings, .int x_height, .int x_width, .int x_imageHeight])), (q_cells, .inl (k_cells, 32, .inr (.inl x_cells)))]) isC h1
  have hDc := hD.sub (ws' := [(q_this, .inr (2, [.ref q_cells, .ref q_beginnings, .int x_height, .int x_width, .int x_imageHeight])), (q_cells, .inl (k_cells, 32, .inr (.inl x_cells)))]) isC h3 h2
  have hKc := hK.sub (tys' := [(k_cells, .long)]) kt h7
  have hFc := va_free (wc := [(q_this, .inr (2, [.ref q_cells, .ref q_beginnings, .int x_height, .int x_width, .int x_imageHeight])), (q_cells, .inl (k_cells, 32, .inr (.inl x_cells)))]) hD hS hA isC h2
  refine va_callv (va_runV (As := [.int a_0, .int a_1]) (rest := rest) S (c_RD_open l dC dI q_this q_cells q_beginnings k_cells H.size x_height x_width x_imageHeight x_cells a_0 a_1 post hw) cw ⟨zz_blind, va_recv hKc hPc (ci := 2) (q0 := 0) rfl rfl, fun U hU hW => ⟨rfl, by rw [hU], by rw [hU]; exact hPc, va_K.moved hW.alike hKc, hDc.weaken (fun _ _ _ _ => trivial)⟩⟩ rfl rfl hsize rfl (lv_room hrest) hdg hf) hS (fun q _ h => hFc q h) hFc (fun u t H1 locs ht hvm hw hB hz1 hk1 hS => ?_)
  obtain ⟨hP1, hK1, hD1⟩ := hB
  rw [ht] at hP1
  obtain ⟨hP2, hD2⟩ := va_join (wr := wr) (w1 := [(q_this, .inr (2, [.ref q_cells, .ref q_beginnings, .int u.1, .int u.2.1, .int x_imageHeight])), (q_cells, .inl (k_cells, 32, .inr (.inl u.2.2)))]) hP hD isC isR h2 h4 h5 h6 hk1 hFc hP1 hD1
  exact kk u.1 u.2.1 u.2.2 H1 locs hw hP2 hD2 hS
abbrev rm_RD_imageRows : Room := { frames := 0, cells := 0, slots := 0, locals := 0 }
abbrev qz_RD_imageRows (dC : Nat → ClassId) (dI : Nat → Nat → Nat) (q_this q_cells q_beginnings : Nat) (x_height : Int32) (x_width : Int32) (x_imageHeight : Int32) (post : Int32 → Prop) (A : Nat → Prop) : Array Value → State → Outcome → State → Prop := va_Qi (fun (r : Int32) (_ : Unit) => post r) (fun (u : Unit) (t : State) => va_P (dC, dI) zz_cl [(q_this, .inr (2, [.ref q_cells, .ref q_beginnings, .int x_height, .int x_width, .int x_imageHeight]))] t.heap ∧ va_K (dC, dI) zz_cl [] t ∧ va_D A [(q_this, .inr (2, [.ref q_cells, .ref q_beginnings, .int x_height, .int x_width, .int x_imageHeight]))]) A
def cx_RD_imageRows (p : Program) (s : State) (m : MethodId) (args : Array Value) (meth : Method) (c : Code) : Prop := p.tables.exec = Jvm.exec ∧ c.code = b_RD_imageRows ∧ meth.sig.returnType = (some .int) ∧ c.maxLocals = 1 ∧ s.vm.findClass "StructureRows$Reduction" = some m.cls ∧ (∀ w ∈ zz_GW, w.before args s = true) ∧ meth.locks = false
def wp_RD_imageRows (x_height : Int32) (x_width : Int32) (x_imageHeight : Int32)  (post : Int32 → Prop) : Prop := post x_imageHeight
set_option maxHeartbeats 4000000 in
set_option maxRecDepth 100000 in
theorem c_RD_imageRows (l : Launch) (dC : Nat → ClassId) (dI : Nat → Nat → Nat) (q_this q_cells q_beginnings : Nat) (sz : Nat) (x_height : Int32) (x_width : Int32) (x_imageHeight : Int32)  (post : Int32 → Prop) (hw : wp_RD_imageRows x_height x_width x_imageHeight post) : Met l y_RD_imageRows (zz_w y_RD_imageRows b_RD_imageRows 1 (some .int)) rm_RD_imageRows (va_Pc [.ref q_this] (fun U => U.heap.size = sz ∧ va_P (dC, dI) zz_cl [(q_this, .inr (2, [.ref q_cells, .ref q_beginnings, .int x_height, .int x_width, .int x_imageHeight]))] U.heap ∧ va_K (dC, dI) zz_cl [] U ∧ va_D (fun _ => True) [(q_this, .inr (2, [.ref q_cells, .ref q_beginnings, .int x_height, .int x_width, .int x_imageHeight]))])) (qz_RD_imageRows dC dI q_this q_cells q_beginnings x_height x_width x_imageHeight post (va_A [(q_this, .inr (2, [.ref q_cells, .ref q_beginnings, .int x_height, .int x_width, .int x_imageHeight]))] sz)) 0 0 (va_A [(q_this, .inr (2, [.ref q_cells, .ref q_beginnings, .int x_height, .int x_width, .int x_imageHeight]))] sz) := by
  refine Met.ofW (cc := b_RD_imageRows) (maxL := 1) (ret := (some .int)) (by decide) rfl ?_
  intro p e s m args below meth c s₁ B hml hv
  obtain ⟨rfl, hsz, hP, hK, hD0⟩ := hv
  have hx := B.exec
  have hb := B.bytes
  have hr := B.returns
  have hts0 := atoms_spec (ws := (zz_w y_RD_imageRows b_RD_imageRows 1 (some .int))) B.pre
  have hts : ∀ w ∈ zz_GW, w.before _ s = true := fun w h => hts0 w (List.mem_cons_of_mem _ h)
  clear hts0
  have hown : s.vm.findClass "StructureRows$Reduction" = some m.cls := findClass_of_methodNamed B.named
  have hlocks := B.notSynchronized
  have C0 : cx_RD_imageRows p s m _ meth c := ⟨hx, hb, hr, hml, hown, hts, hlocks⟩
  subst hsz
  have hD := hD0.self (sz := s.heap.size)
  generalize hAe : va_A [(q_this, .inr (2, [.ref q_cells, .ref q_beginnings, .int x_height, .int x_width, .int x_imageHeight]))] s.heap.size = A at hD ⊢
  have hA : ∀ q : Nat, s.heap.size ≤ q → A q := fun q h => by rw [← hAe]; exact Or.inr h
  clear hAe hD0
  have hS : va_S A s.heap s.heap [] := va_S.rf
  have hl := lv_entry ([.ref q_this]) (n := 1) (Nat.le_of_ble_eq_true rfl)
  rw [lg_entry_eq]
  generalize (lg_sl ([.ref q_this]) ++ List.replicate (1 - (lg_sl ([.ref q_this])).length) Slot.unset).toArray = ls at hl ⊢
  replace hl : lv_has ls 1 [(0, .ref q_this)] := hl
  unfold wp_RD_imageRows at hw
  change W p l e rm_RD_imageRows s m _ below meth c s.heap [] 0 0 _ _
  refine lv_aload_n hx hb d_RD_imageRows_0 rfl (lv_at hl 0 rfl) ?_
  refine va_get (D := (dC, dI)) (ci := 2) (v := .int x_imageHeight) (C := "StructureRows$Reduction") (T := T_RD) (N := 5) hx hb hts in_RD hown hK hP 0 rfl rfl 4 (by decide) (hts _ tw_62) (fun _ h9 => h9) rfl d_RD_imageRows_1 ?_
  exact W.iret (v := x_imageHeight) hx hb hr (fun t ht hW => ⟨⟨x_imageHeight, (), rfl, hw, by rw [ht]; exact hP, va_K.moved hW.alike hK, hD⟩, hS.F ht⟩) hS.2.2 d_RD_imageRows_4
set_option maxHeartbeats 4000000 in
set_option maxRecDepth 100000 in
theorem go_RD_imageRows {p : Program} {l : Launch} {e : Env} {R : Room} {s : State} {m : MethodId} {args : Array Value} {below : List Frame} {meth : Method} {c : Code} {H : Heap} {locs : List Loc} {cells slots : Nat} {Q : State → Prop} {cc : ByteArray} {nL : Nat} {Ts : List Cond} {own : String} {index : Nat} {A0 : Nat → Prop} {H0 : Heap} {dC : Nat → ClassId} {dI : Nat → Nat → Nat} {ws wr : va_W} {tys : List (ClassId × FieldType)} {q_this q_cells q_beginnings : Nat} {x_height : Int32} {x_width : Int32} {x_imageHeight : Int32}  {post : Int32 → Prop} (S : CallFix p m c cc nL s args Ts own) (cw : CallW R s args own "StructureRows$Reduction" index y_RD_imageRows b_RD_imageRows 1 (some .int) (zz_w y_RD_imageRows b_RD_imageRows 1 (some .int)) rm_RD_imageRows 0 0 0) (hK : va_K (dC, dI) zz_cl tys s) (hP : va_P (dC, dI) zz_cl ws H) (hD : va_D A0 ws) (hS : va_S A0 H0 H locs) (hA : ∀ q, H0.size ≤ q → A0 q) (isC isR kt : List Nat) (h1 : isC.filterMap (fun i => ws[i]?) = [(q_this, .inr (2, [.ref q_cells, .ref q_beginnings, .int x_height, .int x_width, .int x_imageHeight]))]) (h2 : isC.map (fun i => ws[i]?) = ([(q_this, .inr (2, [.ref q_cells, .ref q_beginnings, .int x_height, .int x_width, .int x_imageHeight]))] : va_W).map some) (h3 : va_nd isC = true) (h4 : isR.map (fun i => ws[i]?) = wr.map some) (h5 : va_nd isR = true) (h6 : ∀ i ∈ isR, i ∉ isC) (h7 : kt.filterMap (fun i => tys[i]?) = []) (hw : wp_RD_imageRows x_height x_width x_imageHeight post) {pc : Nat} {ls : Array Slot} {rest : List Value} (hsize : ls.size = nL) (hrest : (rest.map fun v => v.category).sum ≤ 8) (hdg : decode cc pc = .ok (.invokevirtual index, 3)) (hf : cells + 0 ≤ R.cells ∧ slots + 0 ≤ R.slots) (kk : ∀ (r : Int32) (H1 : Heap) (locs1 : List Loc), post r → va_P (dC, dI) zz_cl (wr ++ [(q_this, .inr (2, [.ref q_cells, .ref q_beginnings, .int x_height, .int x_width, .int x_imageHeight]))]) H1 → va_D A0 (wr ++ [(q_this, .inr (2, [.ref q_cells, .ref q_beginnings, .int x_height, .int x_width, .int x_imageHeight]))]) → va_S A0 H0 H1 locs1 → W p l e R s m args below meth c H1 locs1 (cells + 0) (slots + 0) Q (F0 m (pc + 3) ls (.int r :: rest))) : W p l e R s m args below meth c H locs cells slots Q (F0 m pc ls (.ref q_this :: rest)) := by
  have hPc := hP.sub (ws' := [(q_this, .inr (2, [.ref q_cells, .ref q_beginnings, .int x_height, .int x_width, .int x_imageHeight]))]) isC h1
  have hDc := hD.sub (ws' := [(q_this, .inr (2, [.ref q_cells, .ref q_beginnings, .int x_height, .int x_width, .int x_imageHeight]))]) isC h3 h2
  have hKc := hK.sub (tys' := []) kt h7
  have hFc := va_free (wc := [(q_this, .inr (2, [.ref q_cells, .ref q_beginnings, .int x_height, .int x_width, .int x_imageHeight]))]) hD hS hA isC h2
  refine va_calli (va_runV (As := []) (rest := rest) S (c_RD_imageRows l dC dI q_this q_cells q_beginnings H.size x_height x_width x_imageHeight post hw) cw ⟨zz_blind, va_recv hKc hPc (ci := 2) (q0 := 0) rfl rfl, fun U hU hW => ⟨rfl, by rw [hU], by rw [hU]; exact hPc, va_K.moved hW.alike hKc, hDc.weaken (fun _ _ _ _ => trivial)⟩⟩ rfl rfl hsize rfl (lv_room hrest) hdg hf) hS (fun q _ h => hFc q h) hFc (fun r u t H1 locs ht hvm hw hB hz1 hk1 hS => ?_)
  obtain ⟨hP1, hK1, hD1⟩ := hB
  rw [ht] at hP1
  obtain ⟨hP2, hD2⟩ := va_join (wr := wr) (w1 := [(q_this, .inr (2, [.ref q_cells, .ref q_beginnings, .int x_height, .int x_width, .int x_imageHeight]))]) hP hD isC isR h2 h4 h5 h6 hk1 hFc hP1 hD1
  exact kk r H1 locs hw hP2 hD2 hS
abbrev rm_RD_kernelRows : Room := { frames := 0, cells := 0, slots := 0, locals := 0 }
abbrev qz_RD_kernelRows (dC : Nat → ClassId) (dI : Nat → Nat → Nat) (q_this q_cells q_beginnings : Nat) (x_height : Int32) (x_width : Int32) (x_imageHeight : Int32) (post : Int32 → Prop) (A : Nat → Prop) : Array Value → State → Outcome → State → Prop := va_Qi (fun (r : Int32) (_ : Unit) => post r) (fun (u : Unit) (t : State) => va_P (dC, dI) zz_cl [(q_this, .inr (2, [.ref q_cells, .ref q_beginnings, .int x_height, .int x_width, .int x_imageHeight]))] t.heap ∧ va_K (dC, dI) zz_cl [] t ∧ va_D A [(q_this, .inr (2, [.ref q_cells, .ref q_beginnings, .int x_height, .int x_width, .int x_imageHeight]))]) A
def cx_RD_kernelRows (p : Program) (s : State) (m : MethodId) (args : Array Value) (meth : Method) (c : Code) : Prop := p.tables.exec = Jvm.exec ∧ c.code = b_RD_kernelRows ∧ meth.sig.returnType = (some .int) ∧ c.maxLocals = 1 ∧ s.vm.findClass "StructureRows$Reduction" = some m.cls ∧ (∀ w ∈ zz_GW, w.before args s = true) ∧ meth.locks = false
def wp_RD_kernelRows (x_height : Int32) (x_width : Int32) (x_imageHeight : Int32)  (post : Int32 → Prop) : Prop := post (x_height - x_imageHeight)
set_option maxHeartbeats 4000000 in
set_option maxRecDepth 100000 in
theorem c_RD_kernelRows (l : Launch) (dC : Nat → ClassId) (dI : Nat → Nat → Nat) (q_this q_cells q_beginnings : Nat) (sz : Nat) (x_height : Int32) (x_width : Int32) (x_imageHeight : Int32)  (post : Int32 → Prop) (hw : wp_RD_kernelRows x_height x_width x_imageHeight post) : Met l y_RD_kernelRows (zz_w y_RD_kernelRows b_RD_kernelRows 1 (some .int)) rm_RD_kernelRows (va_Pc [.ref q_this] (fun U => U.heap.size = sz ∧ va_P (dC, dI) zz_cl [(q_this, .inr (2, [.ref q_cells, .ref q_beginnings, .int x_height, .int x_width, .int x_imageHeight]))] U.heap ∧ va_K (dC, dI) zz_cl [] U ∧ va_D (fun _ => True) [(q_this, .inr (2, [.ref q_cells, .ref q_beginnings, .int x_height, .int x_width, .int x_imageHeight]))])) (qz_RD_kernelRows dC dI q_this q_cells q_beginnings x_height x_width x_imageHeight post (va_A [(q_this, .inr (2, [.ref q_cells, .ref q_beginnings, .int x_height, .int x_width, .int x_imageHeight]))] sz)) 0 0 (va_A [(q_this, .inr (2, [.ref q_cells, .ref q_beginnings, .int x_height, .int x_width, .int x_imageHeight]))] sz) := by
  refine Met.ofW (cc := b_RD_kernelRows) (maxL := 1) (ret := (some .int)) (by decide) rfl ?_
  intro p e s m args below meth c s₁ B hml hv
  obtain ⟨rfl, hsz, hP, hK, hD0⟩ := hv
  have hx := B.exec
  have hb := B.bytes
  have hr := B.returns
  have hts0 := atoms_spec (ws := (zz_w y_RD_kernelRows b_RD_kernelRows 1 (some .int))) B.pre
  have hts : ∀ w ∈ zz_GW, w.before _ s = true := fun w h => hts0 w (List.mem_cons_of_mem _ h)
  clear hts0
  have hown : s.vm.findClass "StructureRows$Reduction" = some m.cls := findClass_of_methodNamed B.named
  have hlocks := B.notSynchronized
  have C0 : cx_RD_kernelRows p s m _ meth c := ⟨hx, hb, hr, hml, hown, hts, hlocks⟩
  subst hsz
  have hD := hD0.self (sz := s.heap.size)
  generalize hAe : va_A [(q_this, .inr (2, [.ref q_cells, .ref q_beginnings, .int x_height, .int x_width, .int x_imageHeight]))] s.heap.size = A at hD ⊢
  have hA : ∀ q : Nat, s.heap.size ≤ q → A q := fun q h => by rw [← hAe]; exact Or.inr h
  clear hAe hD0
  have hS : va_S A s.heap s.heap [] := va_S.rf
  have hl := lv_entry ([.ref q_this]) (n := 1) (Nat.le_of_ble_eq_true rfl)
  rw [lg_entry_eq]
  generalize (lg_sl ([.ref q_this]) ++ List.replicate (1 - (lg_sl ([.ref q_this])).length) Slot.unset).toArray = ls at hl ⊢
  replace hl : lv_has ls 1 [(0, .ref q_this)] := hl
  unfold wp_RD_kernelRows at hw
  change W p l e rm_RD_kernelRows s m _ below meth c s.heap [] 0 0 _ _
  refine lv_aload_n hx hb d_RD_kernelRows_0 rfl (lv_at hl 0 rfl) ?_
  refine va_get (D := (dC, dI)) (ci := 2) (v := .int x_height) (C := "StructureRows$Reduction") (T := T_RD) (N := 5) hx hb hts in_RD hown hK hP 0 rfl rfl 2 (by decide) (hts _ tw_60) (fun _ h9 => h9) rfl d_RD_kernelRows_1 ?_
  refine lv_aload_n hx hb d_RD_kernelRows_4 rfl (lv_at hl 0 rfl) ?_
  refine va_get (D := (dC, dI)) (ci := 2) (v := .int x_imageHeight) (C := "StructureRows$Reduction") (T := T_RD) (N := 5) hx hb hts in_RD hown hK hP 0 rfl rfl 4 (by decide) (hts _ tw_62) (fun _ h9 => h9) rfl d_RD_kernelRows_5 ?_
  refine lv_isub hx hb d_RD_kernelRows_8 ?_
  exact W.iret (v := x_height - x_imageHeight) hx hb hr (fun t ht hW => ⟨⟨x_height - x_imageHeight, (), rfl, hw, by rw [ht]; exact hP, va_K.moved hW.alike hK, hD⟩, hS.F ht⟩) hS.2.2 d_RD_kernelRows_9
set_option maxHeartbeats 4000000 in
set_option maxRecDepth 100000 in
theorem go_RD_kernelRows {p : Program} {l : Launch} {e : Env} {R : Room} {s : State} {m : MethodId} {args : Array Value} {below : List Frame} {meth : Method} {c : Code} {H : Heap} {locs : List Loc} {cells slots : Nat} {Q : State → Prop} {cc : ByteArray} {nL : Nat} {Ts : List Cond} {own : String} {index : Nat} {A0 : Nat → Prop} {H0 : Heap} {dC : Nat → ClassId} {dI : Nat → Nat → Nat} {ws wr : va_W} {tys : List (ClassId × FieldType)} {q_this q_cells q_beginnings : Nat} {x_height : Int32} {x_width : Int32} {x_imageHeight : Int32}  {post : Int32 → Prop} (S : CallFix p m c cc nL s args Ts own) (cw : CallW R s args own "StructureRows$Reduction" index y_RD_kernelRows b_RD_kernelRows 1 (some .int) (zz_w y_RD_kernelRows b_RD_kernelRows 1 (some .int)) rm_RD_kernelRows 0 0 0) (hK : va_K (dC, dI) zz_cl tys s) (hP : va_P (dC, dI) zz_cl ws H) (hD : va_D A0 ws) (hS : va_S A0 H0 H locs) (hA : ∀ q, H0.size ≤ q → A0 q) (isC isR kt : List Nat) (h1 : isC.filterMap (fun i => ws[i]?) = [(q_this, .inr (2, [.ref q_cells, .ref q_beginnings, .int x_height, .int x_width, .int x_imageHeight]))]) (h2 : isC.map (fun i => ws[i]?) = ([(q_this, .inr (2, [.ref q_cells, .ref q_beginnings, .int x_height, .int x_width, .int x_imageHeight]))] : va_W).map some) (h3 : va_nd isC = true) (h4 : isR.map (fun i => ws[i]?) = wr.map some) (h5 : va_nd isR = true) (h6 : ∀ i ∈ isR, i ∉ isC) (h7 : kt.filterMap (fun i => tys[i]?) = []) (hw : wp_RD_kernelRows x_height x_width x_imageHeight post) {pc : Nat} {ls : Array Slot} {rest : List Value} (hsize : ls.size = nL) (hrest : (rest.map fun v => v.category).sum ≤ 8) (hdg : decode cc pc = .ok (.invokevirtual index, 3)) (hf : cells + 0 ≤ R.cells ∧ slots + 0 ≤ R.slots) (kk : ∀ (r : Int32) (H1 : Heap) (locs1 : List Loc), post r → va_P (dC, dI) zz_cl (wr ++ [(q_this, .inr (2, [.ref q_cells, .ref q_beginnings, .int x_height, .int x_width, .int x_imageHeight]))]) H1 → va_D A0 (wr ++ [(q_this, .inr (2, [.ref q_cells, .ref q_beginnings, .int x_height, .int x_width, .int x_imageHeight]))]) → va_S A0 H0 H1 locs1 → W p l e R s m args below meth c H1 locs1 (cells + 0) (slots + 0) Q (F0 m (pc + 3) ls (.int r :: rest))) : W p l e R s m args below meth c H locs cells slots Q (F0 m pc ls (.ref q_this :: rest)) := by
  have hPc := hP.sub (ws' := [(q_this, .inr (2, [.ref q_cells, .ref q_beginnings, .int x_height, .int x_width, .int x_imageHeight]))]) isC h1
  have hDc := hD.sub (ws' := [(q_this, .inr (2, [.ref q_cells, .ref q_beginnings, .int x_height, .int x_width, .int x_imageHeight]))]) isC h3 h2
  have hKc := hK.sub (tys' := []) kt h7
  have hFc := va_free (wc := [(q_this, .inr (2, [.ref q_cells, .ref q_beginnings, .int x_height, .int x_width, .int x_imageHeight]))]) hD hS hA isC h2
  refine va_calli (va_runV (As := []) (rest := rest) S (c_RD_kernelRows l dC dI q_this q_cells q_beginnings H.size x_height x_width x_imageHeight post hw) cw ⟨zz_blind, va_recv hKc hPc (ci := 2) (q0 := 0) rfl rfl, fun U hU hW => ⟨rfl, by rw [hU], by rw [hU]; exact hPc, va_K.moved hW.alike hKc, hDc.weaken (fun _ _ _ _ => trivial)⟩⟩ rfl rfl hsize rfl (lv_room hrest) hdg hf) hS (fun q _ h => hFc q h) hFc (fun r u t H1 locs ht hvm hw hB hz1 hk1 hS => ?_)
  obtain ⟨hP1, hK1, hD1⟩ := hB
  rw [ht] at hP1
  obtain ⟨hP2, hD2⟩ := va_join (wr := wr) (w1 := [(q_this, .inr (2, [.ref q_cells, .ref q_beginnings, .int x_height, .int x_width, .int x_imageHeight]))]) hP hD isC isR h2 h4 h5 h6 hk1 hFc hP1 hD1
  exact kk r H1 locs hw hP2 hD2 hS
abbrev rm_RD_image : Room := { frames := 1, cells := 0, slots := 0, locals := 22 }
abbrev qz_RD_image (dC : Nat → ClassId) (dI : Nat → Nat → Nat) (q_this q_cells q_beginnings : Nat) (k_cells : ClassId) (x_height : Int32) (x_width : Int32) (x_imageHeight : Int32) (x_cells : Nat → Int64) (post : Int64 → Prop) (A : Nat → Prop) : Array Value → State → Outcome → State → Prop := va_Ql (fun (r : Int64) (_ : Unit) => post r) (fun (u : Unit) (t : State) => va_P (dC, dI) zz_cl [(q_this, .inr (2, [.ref q_cells, .ref q_beginnings, .int x_height, .int x_width, .int x_imageHeight])), (q_cells, .inl (k_cells, 32, .inr (.inl x_cells)))] t.heap ∧ va_K (dC, dI) zz_cl [(k_cells, .long)] t ∧ va_D A [(q_this, .inr (2, [.ref q_cells, .ref q_beginnings, .int x_height, .int x_width, .int x_imageHeight])), (q_cells, .inl (k_cells, 32, .inr (.inl x_cells)))]) A
def cx_RD_image (p : Program) (s : State) (m : MethodId) (args : Array Value) (meth : Method) (c : Code) : Prop := p.tables.exec = Jvm.exec ∧ c.code = b_RD_image ∧ meth.sig.returnType = (some .long) ∧ c.maxLocals = 3 ∧ s.vm.findClass "StructureRows$Reduction" = some m.cls ∧ (∀ w ∈ zz_GW, w.before args s = true) ∧ meth.locks = false
def wp_RD_image (x_height : Int32) (x_width : Int32) (x_imageHeight : Int32) (x_cells : Nat → Int64) (a_0 : Int32) (a_1 : Int32) (post : Int64 → Prop) : Prop := wp_RD_cell x_height x_width x_imageHeight x_cells a_0 a_1 (fun (r_1 : Int64) => (post r_1))
set_option maxHeartbeats 4000000 in
set_option maxRecDepth 100000 in
theorem c_RD_image (l : Launch) (dC : Nat → ClassId) (dI : Nat → Nat → Nat) (q_this q_cells q_beginnings : Nat) (k_cells : ClassId) (sz : Nat) (x_height : Int32) (x_width : Int32) (x_imageHeight : Int32) (x_cells : Nat → Int64) (a_0 : Int32) (a_1 : Int32) (post : Int64 → Prop) (hw : wp_RD_image x_height x_width x_imageHeight x_cells a_0 a_1 post) : Met l y_RD_image (zz_w y_RD_image b_RD_image 3 (some .long)) rm_RD_image (va_Pc [.ref q_this, .int a_0, .int a_1] (fun U => U.heap.size = sz ∧ va_P (dC, dI) zz_cl [(q_this, .inr (2, [.ref q_cells, .ref q_beginnings, .int x_height, .int x_width, .int x_imageHeight])), (q_cells, .inl (k_cells, 32, .inr (.inl x_cells)))] U.heap ∧ va_K (dC, dI) zz_cl [(k_cells, .long)] U ∧ va_D (fun _ => True) [(q_this, .inr (2, [.ref q_cells, .ref q_beginnings, .int x_height, .int x_width, .int x_imageHeight])), (q_cells, .inl (k_cells, 32, .inr (.inl x_cells)))])) (qz_RD_image dC dI q_this q_cells q_beginnings k_cells x_height x_width x_imageHeight x_cells post (va_A [(q_this, .inr (2, [.ref q_cells, .ref q_beginnings, .int x_height, .int x_width, .int x_imageHeight])), (q_cells, .inl (k_cells, 32, .inr (.inl x_cells)))] sz)) 0 0 (va_A [(q_this, .inr (2, [.ref q_cells, .ref q_beginnings, .int x_height, .int x_width, .int x_imageHeight])), (q_cells, .inl (k_cells, 32, .inr (.inl x_cells)))] sz) := by
  refine Met.ofW (cc := b_RD_image) (maxL := 3) (ret := (some .long)) (by decide) rfl ?_
  intro p e s m args below meth c s₁ B hml hv
  obtain ⟨rfl, hsz, hP, hK, hD0⟩ := hv
  have hx := B.exec
  have hb := B.bytes
  have hr := B.returns
  have hts0 := atoms_spec (ws := (zz_w y_RD_image b_RD_image 3 (some .long))) B.pre
  have hts : ∀ w ∈ zz_GW, w.before _ s = true := fun w h => hts0 w (List.mem_cons_of_mem _ h)
  clear hts0
  have hown : s.vm.findClass "StructureRows$Reduction" = some m.cls := findClass_of_methodNamed B.named
  have hlocks := B.notSynchronized
  have C0 : cx_RD_image p s m _ meth c := ⟨hx, hb, hr, hml, hown, hts, hlocks⟩
  subst hsz
  have hD := hD0.self (sz := s.heap.size)
  generalize hAe : va_A [(q_this, .inr (2, [.ref q_cells, .ref q_beginnings, .int x_height, .int x_width, .int x_imageHeight])), (q_cells, .inl (k_cells, 32, .inr (.inl x_cells)))] s.heap.size = A at hD ⊢
  have hA : ∀ q : Nat, s.heap.size ≤ q → A q := fun q h => by rw [← hAe]; exact Or.inr h
  clear hAe hD0
  have hS : va_S A s.heap s.heap [] := va_S.rf
  have hl := lv_entry ([.ref q_this, .int a_0, .int a_1]) (n := 3) (Nat.le_of_ble_eq_true rfl)
  rw [lg_entry_eq]
  generalize (lg_sl ([.ref q_this, .int a_0, .int a_1]) ++ List.replicate (3 - (lg_sl ([.ref q_this, .int a_0, .int a_1])).length) Slot.unset).toArray = ls at hl ⊢
  replace hl : lv_has ls 3 [(0, .ref q_this), (1, .int a_0), (2, .int a_1)] := hl
  unfold wp_RD_image at hw
  change W p l e rm_RD_image s m _ below meth c s.heap [] 0 0 _ _
  refine lv_aload_n hx hb d_RD_image_0 rfl (lv_at hl 0 rfl) ?_
  refine lv_iload_n hx hb d_RD_image_1 rfl (lv_at hl 1 rfl) ?_
  refine lv_iload_n hx hb d_RD_image_2 rfl (lv_at hl 2 rfl) ?_
  refine go_RD_cell (wr := []) ⟨hx, hb, hml, hown, hts⟩ (zz_cwV 2 hts tw_164 tw_161 tw_163 tw_2 tw_32 ⟨by decide, by decide, by decide +kernel⟩ ⟨Nat.le_of_ble_eq_true rfl, Nat.le_of_ble_eq_true rfl⟩) hK hP hD hS hA [0, 1] [] [0] rfl rfl (by decide) rfl (by decide) (by decide) rfl hw hl.1 (Nat.le_of_ble_eq_true rfl) d_RD_image_3 ⟨Nat.le_of_ble_eq_true rfl, Nat.le_of_ble_eq_true rfl⟩ (fun r_1 H locs hw hP hD hS => ?_)
  replace hP : va_P (dC, dI) zz_cl [(q_this, .inr (2, [.ref q_cells, .ref q_beginnings, .int x_height, .int x_width, .int x_imageHeight])), (q_cells, .inl (k_cells, 32, .inr (.inl x_cells)))] H := hP
  replace hD : va_D A [(q_this, .inr (2, [.ref q_cells, .ref q_beginnings, .int x_height, .int x_width, .int x_imageHeight])), (q_cells, .inl (k_cells, 32, .inr (.inl x_cells)))] := hD
  exact W.lret (v := r_1) hx hb hr (fun t ht hW => ⟨⟨r_1, (), rfl, hw, by rw [ht]; exact hP, va_K.moved hW.alike hK, hD⟩, hS.F ht⟩) hS.2.2 d_RD_image_6
set_option maxHeartbeats 4000000 in
set_option maxRecDepth 100000 in
theorem go_RD_image {p : Program} {l : Launch} {e : Env} {R : Room} {s : State} {m : MethodId} {args : Array Value} {below : List Frame} {meth : Method} {c : Code} {H : Heap} {locs : List Loc} {cells slots : Nat} {Q : State → Prop} {cc : ByteArray} {nL : Nat} {Ts : List Cond} {own : String} {index : Nat} {A0 : Nat → Prop} {H0 : Heap} {dC : Nat → ClassId} {dI : Nat → Nat → Nat} {ws wr : va_W} {tys : List (ClassId × FieldType)} {q_this q_cells q_beginnings : Nat} {k_cells : ClassId} {x_height : Int32} {x_width : Int32} {x_imageHeight : Int32} {x_cells : Nat → Int64} {a_0 : Int32} {a_1 : Int32} {post : Int64 → Prop} (S : CallFix p m c cc nL s args Ts own) (cw : CallW R s args own "StructureRows$Reduction" index y_RD_image b_RD_image 3 (some .long) (zz_w y_RD_image b_RD_image 3 (some .long)) rm_RD_image 0 0 2) (hK : va_K (dC, dI) zz_cl tys s) (hP : va_P (dC, dI) zz_cl ws H) (hD : va_D A0 ws) (hS : va_S A0 H0 H locs) (hA : ∀ q, H0.size ≤ q → A0 q) (isC isR kt : List Nat) (h1 : isC.filterMap (fun i => ws[i]?) = [(q_this, .inr (2, [.ref q_cells, .ref q_beginnings, .int x_height, .int x_width, .int x_imageHeight])), (q_cells, .inl (k_cells, 32, .inr (.inl x_cells)))]) (h2 : isC.map (fun i => ws[i]?) = ([(q_this, .inr (2, [.ref q_cells, .ref q_beginnings, .int x_height, .int x_width, .int x_imageHeight])), (q_cells, .inl (k_cells, 32, .inr (.inl x_cells)))] : va_W).map some) (h3 : va_nd isC = true) (h4 : isR.map (fun i => ws[i]?) = wr.map some) (h5 : va_nd isR = true) (h6 : ∀ i ∈ isR, i ∉ isC) (h7 : kt.filterMap (fun i => tys[i]?) = [(k_cells, .long)]) (hw : wp_RD_image x_height x_width x_imageHeight x_cells a_0 a_1 post) {pc : Nat} {ls : Array Slot} {rest : List Value} (hsize : ls.size = nL) (hrest : (rest.map fun v => v.category).sum ≤ 8) (hdg : decode cc pc = .ok (.invokevirtual index, 3)) (hf : cells + 0 ≤ R.cells ∧ slots + 0 ≤ R.slots) (kk : ∀ (r : Int64) (H1 : Heap) (locs1 : List Loc), post r → va_P (dC, dI) zz_cl (wr ++ [(q_this, .inr (2, [.ref q_cells, .ref q_beginnings, .int x_height, .int x_width, .int x_imageHeight])), (q_cells, .inl (k_cells, 32, .inr (.inl x_cells)))]) H1 → va_D A0 (wr ++ [(q_this, .inr (2, [.ref q_cells, .ref q_beginnings, .int x_height, .int x_width, .int x_imageHeight])), (q_cells, .inl (k_cells, 32, .inr (.inl x_cells)))]) → va_S A0 H0 H1 locs1 → W p l e R s m args below meth c H1 locs1 (cells + 0) (slots + 0) Q (F0 m (pc + 3) ls (.long r :: rest))) : W p l e R s m args below meth c H locs cells slots Q (F0 m pc ls (.int a_1 :: .int a_0 :: .ref q_this :: rest)) := by
  have hPc := hP.sub (ws' := [(q_this, .inr (2, [.ref q_cells, .ref q_beginnings, .int x_height, .int x_width, .int x_imageHeight])), (q_cells, .inl (k_cells, 32, .inr (.inl x_cells)))]) isC h1
  have hDc := hD.sub (ws' := [(q_this, .inr (2, [.ref q_cells, .ref q_beginnings, .int x_height, .int x_width, .int x_imageHeight])), (q_cells, .inl (k_cells, 32, .inr (.inl x_cells)))]) isC h3 h2
  have hKc := hK.sub (tys' := [(k_cells, .long)]) kt h7
  have hFc := va_free (wc := [(q_this, .inr (2, [.ref q_cells, .ref q_beginnings, .int x_height, .int x_width, .int x_imageHeight])), (q_cells, .inl (k_cells, 32, .inr (.inl x_cells)))]) hD hS hA isC h2
  refine va_calll (va_runV (As := [.int a_0, .int a_1]) (rest := rest) S (c_RD_image l dC dI q_this q_cells q_beginnings k_cells H.size x_height x_width x_imageHeight x_cells a_0 a_1 post hw) cw ⟨zz_blind, va_recv hKc hPc (ci := 2) (q0 := 0) rfl rfl, fun U hU hW => ⟨rfl, by rw [hU], by rw [hU]; exact hPc, va_K.moved hW.alike hKc, hDc.weaken (fun _ _ _ _ => trivial)⟩⟩ rfl rfl hsize rfl (lv_room hrest) hdg hf) hS (fun q _ h => hFc q h) hFc (fun r u t H1 locs ht hvm hw hB hz1 hk1 hS => ?_)
  obtain ⟨hP1, hK1, hD1⟩ := hB
  rw [ht] at hP1
  obtain ⟨hP2, hD2⟩ := va_join (wr := wr) (w1 := [(q_this, .inr (2, [.ref q_cells, .ref q_beginnings, .int x_height, .int x_width, .int x_imageHeight])), (q_cells, .inl (k_cells, 32, .inr (.inl x_cells)))]) hP hD isC isR h2 h4 h5 h6 hk1 hFc hP1 hD1
  exact kk r H1 locs hw hP2 hD2 hS
abbrev rm_RD_kernel : Room := { frames := 1, cells := 0, slots := 0, locals := 22 }
abbrev qz_RD_kernel (dC : Nat → ClassId) (dI : Nat → Nat → Nat) (q_this q_cells q_beginnings : Nat) (k_cells : ClassId) (x_height : Int32) (x_width : Int32) (x_imageHeight : Int32) (x_cells : Nat → Int64) (post : Int64 → Prop) (A : Nat → Prop) : Array Value → State → Outcome → State → Prop := va_Ql (fun (r : Int64) (_ : Unit) => post r) (fun (u : Unit) (t : State) => va_P (dC, dI) zz_cl [(q_this, .inr (2, [.ref q_cells, .ref q_beginnings, .int x_height, .int x_width, .int x_imageHeight])), (q_cells, .inl (k_cells, 32, .inr (.inl x_cells)))] t.heap ∧ va_K (dC, dI) zz_cl [(k_cells, .long)] t ∧ va_D A [(q_this, .inr (2, [.ref q_cells, .ref q_beginnings, .int x_height, .int x_width, .int x_imageHeight])), (q_cells, .inl (k_cells, 32, .inr (.inl x_cells)))]) A
def cx_RD_kernel (p : Program) (s : State) (m : MethodId) (args : Array Value) (meth : Method) (c : Code) : Prop := p.tables.exec = Jvm.exec ∧ c.code = b_RD_kernel ∧ meth.sig.returnType = (some .long) ∧ c.maxLocals = 3 ∧ s.vm.findClass "StructureRows$Reduction" = some m.cls ∧ (∀ w ∈ zz_GW, w.before args s = true) ∧ meth.locks = false
def wp_RD_kernel (x_height : Int32) (x_width : Int32) (x_imageHeight : Int32) (x_cells : Nat → Int64) (a_0 : Int32) (a_1 : Int32) (post : Int64 → Prop) : Prop := wp_RD_cell x_height x_width x_imageHeight x_cells (x_imageHeight + a_0) (x_width + a_1) (fun (r_1 : Int64) => (post r_1))
set_option maxHeartbeats 4000000 in
set_option maxRecDepth 100000 in
theorem c_RD_kernel (l : Launch) (dC : Nat → ClassId) (dI : Nat → Nat → Nat) (q_this q_cells q_beginnings : Nat) (k_cells : ClassId) (sz : Nat) (x_height : Int32) (x_width : Int32) (x_imageHeight : Int32) (x_cells : Nat → Int64) (a_0 : Int32) (a_1 : Int32) (post : Int64 → Prop) (hw : wp_RD_kernel x_height x_width x_imageHeight x_cells a_0 a_1 post) : Met l y_RD_kernel (zz_w y_RD_kernel b_RD_kernel 3 (some .long)) rm_RD_kernel (va_Pc [.ref q_this, .int a_0, .int a_1] (fun U => U.heap.size = sz ∧ va_P (dC, dI) zz_cl [(q_this, .inr (2, [.ref q_cells, .ref q_beginnings, .int x_height, .int x_width, .int x_imageHeight])), (q_cells, .inl (k_cells, 32, .inr (.inl x_cells)))] U.heap ∧ va_K (dC, dI) zz_cl [(k_cells, .long)] U ∧ va_D (fun _ => True) [(q_this, .inr (2, [.ref q_cells, .ref q_beginnings, .int x_height, .int x_width, .int x_imageHeight])), (q_cells, .inl (k_cells, 32, .inr (.inl x_cells)))])) (qz_RD_kernel dC dI q_this q_cells q_beginnings k_cells x_height x_width x_imageHeight x_cells post (va_A [(q_this, .inr (2, [.ref q_cells, .ref q_beginnings, .int x_height, .int x_width, .int x_imageHeight])), (q_cells, .inl (k_cells, 32, .inr (.inl x_cells)))] sz)) 0 0 (va_A [(q_this, .inr (2, [.ref q_cells, .ref q_beginnings, .int x_height, .int x_width, .int x_imageHeight])), (q_cells, .inl (k_cells, 32, .inr (.inl x_cells)))] sz) := by
  refine Met.ofW (cc := b_RD_kernel) (maxL := 3) (ret := (some .long)) (by decide) rfl ?_
  intro p e s m args below meth c s₁ B hml hv
  obtain ⟨rfl, hsz, hP, hK, hD0⟩ := hv
  have hx := B.exec
  have hb := B.bytes
  have hr := B.returns
  have hts0 := atoms_spec (ws := (zz_w y_RD_kernel b_RD_kernel 3 (some .long))) B.pre
  have hts : ∀ w ∈ zz_GW, w.before _ s = true := fun w h => hts0 w (List.mem_cons_of_mem _ h)
  clear hts0
  have hown : s.vm.findClass "StructureRows$Reduction" = some m.cls := findClass_of_methodNamed B.named
  have hlocks := B.notSynchronized
  have C0 : cx_RD_kernel p s m _ meth c := ⟨hx, hb, hr, hml, hown, hts, hlocks⟩
  subst hsz
  have hD := hD0.self (sz := s.heap.size)
  generalize hAe : va_A [(q_this, .inr (2, [.ref q_cells, .ref q_beginnings, .int x_height, .int x_width, .int x_imageHeight])), (q_cells, .inl (k_cells, 32, .inr (.inl x_cells)))] s.heap.size = A at hD ⊢
  have hA : ∀ q : Nat, s.heap.size ≤ q → A q := fun q h => by rw [← hAe]; exact Or.inr h
  clear hAe hD0
  have hS : va_S A s.heap s.heap [] := va_S.rf
  have hl := lv_entry ([.ref q_this, .int a_0, .int a_1]) (n := 3) (Nat.le_of_ble_eq_true rfl)
  rw [lg_entry_eq]
  generalize (lg_sl ([.ref q_this, .int a_0, .int a_1]) ++ List.replicate (3 - (lg_sl ([.ref q_this, .int a_0, .int a_1])).length) Slot.unset).toArray = ls at hl ⊢
  replace hl : lv_has ls 3 [(0, .ref q_this), (1, .int a_0), (2, .int a_1)] := hl
  unfold wp_RD_kernel at hw
  change W p l e rm_RD_kernel s m _ below meth c s.heap [] 0 0 _ _
  refine lv_aload_n hx hb d_RD_kernel_0 rfl (lv_at hl 0 rfl) ?_
  refine lv_aload_n hx hb d_RD_kernel_1 rfl (lv_at hl 0 rfl) ?_
  refine va_get (D := (dC, dI)) (ci := 2) (v := .int x_imageHeight) (C := "StructureRows$Reduction") (T := T_RD) (N := 5) hx hb hts in_RD hown hK hP 0 rfl rfl 4 (by decide) (hts _ tw_62) (fun _ h9 => h9) rfl d_RD_kernel_2 ?_
  refine lv_iload_n hx hb d_RD_kernel_5 rfl (lv_at hl 1 rfl) ?_
  refine lv_iadd hx hb d_RD_kernel_6 ?_
  refine lv_aload_n hx hb d_RD_kernel_7 rfl (lv_at hl 0 rfl) ?_
  refine va_get (D := (dC, dI)) (ci := 2) (v := .int x_width) (C := "StructureRows$Reduction") (T := T_RD) (N := 5) hx hb hts in_RD hown hK hP 0 rfl rfl 3 (by decide) (hts _ tw_61) (fun _ h9 => h9) rfl d_RD_kernel_8 ?_
  refine lv_iload_n hx hb d_RD_kernel_11 rfl (lv_at hl 2 rfl) ?_
  refine lv_iadd hx hb d_RD_kernel_12 ?_
  refine go_RD_cell (wr := []) ⟨hx, hb, hml, hown, hts⟩ (zz_cwV 2 hts tw_164 tw_161 tw_163 tw_2 tw_32 ⟨by decide, by decide, by decide +kernel⟩ ⟨Nat.le_of_ble_eq_true rfl, Nat.le_of_ble_eq_true rfl⟩) hK hP hD hS hA [0, 1] [] [0] rfl rfl (by decide) rfl (by decide) (by decide) rfl hw hl.1 (Nat.le_of_ble_eq_true rfl) d_RD_kernel_13 ⟨Nat.le_of_ble_eq_true rfl, Nat.le_of_ble_eq_true rfl⟩ (fun r_1 H locs hw hP hD hS => ?_)
  replace hP : va_P (dC, dI) zz_cl [(q_this, .inr (2, [.ref q_cells, .ref q_beginnings, .int x_height, .int x_width, .int x_imageHeight])), (q_cells, .inl (k_cells, 32, .inr (.inl x_cells)))] H := hP
  replace hD : va_D A [(q_this, .inr (2, [.ref q_cells, .ref q_beginnings, .int x_height, .int x_width, .int x_imageHeight])), (q_cells, .inl (k_cells, 32, .inr (.inl x_cells)))] := hD
  exact W.lret (v := r_1) hx hb hr (fun t ht hW => ⟨⟨r_1, (), rfl, hw, by rw [ht]; exact hP, va_K.moved hW.alike hK, hD⟩, hS.F ht⟩) hS.2.2 d_RD_kernel_16
set_option maxHeartbeats 4000000 in
set_option maxRecDepth 100000 in
theorem go_RD_kernel {p : Program} {l : Launch} {e : Env} {R : Room} {s : State} {m : MethodId} {args : Array Value} {below : List Frame} {meth : Method} {c : Code} {H : Heap} {locs : List Loc} {cells slots : Nat} {Q : State → Prop} {cc : ByteArray} {nL : Nat} {Ts : List Cond} {own : String} {index : Nat} {A0 : Nat → Prop} {H0 : Heap} {dC : Nat → ClassId} {dI : Nat → Nat → Nat} {ws wr : va_W} {tys : List (ClassId × FieldType)} {q_this q_cells q_beginnings : Nat} {k_cells : ClassId} {x_height : Int32} {x_width : Int32} {x_imageHeight : Int32} {x_cells : Nat → Int64} {a_0 : Int32} {a_1 : Int32} {post : Int64 → Prop} (S : CallFix p m c cc nL s args Ts own) (cw : CallW R s args own "StructureRows$Reduction" index y_RD_kernel b_RD_kernel 3 (some .long) (zz_w y_RD_kernel b_RD_kernel 3 (some .long)) rm_RD_kernel 0 0 2) (hK : va_K (dC, dI) zz_cl tys s) (hP : va_P (dC, dI) zz_cl ws H) (hD : va_D A0 ws) (hS : va_S A0 H0 H locs) (hA : ∀ q, H0.size ≤ q → A0 q) (isC isR kt : List Nat) (h1 : isC.filterMap (fun i => ws[i]?) = [(q_this, .inr (2, [.ref q_cells, .ref q_beginnings, .int x_height, .int x_width, .int x_imageHeight])), (q_cells, .inl (k_cells, 32, .inr (.inl x_cells)))]) (h2 : isC.map (fun i => ws[i]?) = ([(q_this, .inr (2, [.ref q_cells, .ref q_beginnings, .int x_height, .int x_width, .int x_imageHeight])), (q_cells, .inl (k_cells, 32, .inr (.inl x_cells)))] : va_W).map some) (h3 : va_nd isC = true) (h4 : isR.map (fun i => ws[i]?) = wr.map some) (h5 : va_nd isR = true) (h6 : ∀ i ∈ isR, i ∉ isC) (h7 : kt.filterMap (fun i => tys[i]?) = [(k_cells, .long)]) (hw : wp_RD_kernel x_height x_width x_imageHeight x_cells a_0 a_1 post) {pc : Nat} {ls : Array Slot} {rest : List Value} (hsize : ls.size = nL) (hrest : (rest.map fun v => v.category).sum ≤ 8) (hdg : decode cc pc = .ok (.invokevirtual index, 3)) (hf : cells + 0 ≤ R.cells ∧ slots + 0 ≤ R.slots) (kk : ∀ (r : Int64) (H1 : Heap) (locs1 : List Loc), post r → va_P (dC, dI) zz_cl (wr ++ [(q_this, .inr (2, [.ref q_cells, .ref q_beginnings, .int x_height, .int x_width, .int x_imageHeight])), (q_cells, .inl (k_cells, 32, .inr (.inl x_cells)))]) H1 → va_D A0 (wr ++ [(q_this, .inr (2, [.ref q_cells, .ref q_beginnings, .int x_height, .int x_width, .int x_imageHeight])), (q_cells, .inl (k_cells, 32, .inr (.inl x_cells)))]) → va_S A0 H0 H1 locs1 → W p l e R s m args below meth c H1 locs1 (cells + 0) (slots + 0) Q (F0 m (pc + 3) ls (.long r :: rest))) : W p l e R s m args below meth c H locs cells slots Q (F0 m pc ls (.int a_1 :: .int a_0 :: .ref q_this :: rest)) := by
  have hPc := hP.sub (ws' := [(q_this, .inr (2, [.ref q_cells, .ref q_beginnings, .int x_height, .int x_width, .int x_imageHeight])), (q_cells, .inl (k_cells, 32, .inr (.inl x_cells)))]) isC h1
  have hDc := hD.sub (ws' := [(q_this, .inr (2, [.ref q_cells, .ref q_beginnings, .int x_height, .int x_width, .int x_imageHeight])), (q_cells, .inl (k_cells, 32, .inr (.inl x_cells)))]) isC h3 h2
  have hKc := hK.sub (tys' := [(k_cells, .long)]) kt h7
  have hFc := va_free (wc := [(q_this, .inr (2, [.ref q_cells, .ref q_beginnings, .int x_height, .int x_width, .int x_imageHeight])), (q_cells, .inl (k_cells, 32, .inr (.inl x_cells)))]) hD hS hA isC h2
  refine va_calll (va_runV (As := [.int a_0, .int a_1]) (rest := rest) S (c_RD_kernel l dC dI q_this q_cells q_beginnings k_cells H.size x_height x_width x_imageHeight x_cells a_0 a_1 post hw) cw ⟨zz_blind, va_recv hKc hPc (ci := 2) (q0 := 0) rfl rfl, fun U hU hW => ⟨rfl, by rw [hU], by rw [hU]; exact hPc, va_K.moved hW.alike hKc, hDc.weaken (fun _ _ _ _ => trivial)⟩⟩ rfl rfl hsize rfl (lv_room hrest) hdg hf) hS (fun q _ h => hFc q h) hFc (fun r u t H1 locs ht hvm hw hB hz1 hk1 hS => ?_)
  obtain ⟨hP1, hK1, hD1⟩ := hB
  rw [ht] at hP1
  obtain ⟨hP2, hD2⟩ := va_join (wr := wr) (w1 := [(q_this, .inr (2, [.ref q_cells, .ref q_beginnings, .int x_height, .int x_width, .int x_imageHeight])), (q_cells, .inl (k_cells, 32, .inr (.inl x_cells)))]) hP hD isC isR h2 h4 h5 h6 hk1 hFc hP1 hD1
  exact kk r H1 locs hw hP2 hD2 hS
