abbrev rm_RD_cell : Room := { frames := 0, cells := 0, slots := 0, locals := 0 }
abbrev qz_RD_cell (dC : Nat → ClassId) (dI : Nat → Nat → Nat) (q_this q_cells q_beginnings : Nat) (k_cells : ClassId) (x_height : Int32) (x_width : Int32) (x_imageHeight : Int32) (x_cells : Nat → Int64) (post : Int64 → Prop) (A : Nat → Prop) : Array Value → State → Outcome → State → Prop := va_Ql (fun (r : Int64) (_ : Unit) => post r) (fun (u : Unit) (t : State) => va_P (dC, dI) zz_cl [(q_this, .inr (2, [.ref q_cells, .ref q_beginnings, .int x_height, .int x_width, .int x_imageHeight])), (q_cells, .inl (k_cells, 32, .inr (.inl x_cells)))] t.heap ∧ va_K (dC, dI) zz_cl [(k_cells, .long)] t ∧ va_D A [(q_this, .inr (2, [.ref q_cells, .ref q_beginnings, .int x_height, .int x_width, .int x_imageHeight])), (q_cells, .inl (k_cells, 32, .inr (.inl x_cells)))]) A
def cx_RD_cell (p : Program) (s : State) (m : MethodId) (args : Array Value) (meth : Method) (c : Code) : Prop := p.tables.exec = Jvm.exec ∧ c.code = b_RD_cell ∧ meth.sig.returnType = (some .long) ∧ c.maxLocals = 3 ∧ s.vm.findClass "StructureRows$Reduction" = some m.cls ∧ (∀ w ∈ zz_GW, w.before args s = true) ∧ meth.locks = false
def wp_RD_cell (x_height : Int32) (x_width : Int32) (x_imageHeight : Int32) (x_cells : Nat → Int64) (a_0 : Int32) (a_1 : Int32) (post : Int64 → Prop) : Prop := vp_in ((a_0 * 8) + a_1) 32 ∧ (post (x_cells ((a_0 * 8) + a_1).toNatClampNeg))
set_option maxHeartbeats 4000000 in
set_option maxRecDepth 100000 in
theorem c_RD_cell (l : Launch) (dC : Nat → ClassId) (dI : Nat → Nat → Nat) (q_this q_cells q_beginnings : Nat) (k_cells : ClassId) (sz : Nat) (x_height : Int32) (x_width : Int32) (x_imageHeight : Int32) (x_cells : Nat → Int64) (a_0 : Int32) (a_1 : Int32) (post : Int64 → Prop) (hw : wp_RD_cell x_height x_width x_imageHeight x_cells a_0 a_1 post) : Met l y_RD_cell (zz_w y_RD_cell b_RD_cell 3 (some .long)) rm_RD_cell (va_Pc [.ref q_this, .int a_0, .int a_1] (fun U => U.heap.size = sz ∧ va_P (dC, dI) zz_cl [(q_this, .inr (2, [.ref q_cells, .ref q_beginnings, .int x_height, .int x_width, .int x_imageHeight])), (q_cells, .inl (k_cells, 32, .inr (.inl x_cells)))] U.heap ∧ va_K (dC, dI) zz_cl [(k_cells, .long)] U ∧ va_D (fun _ => True) [(q_this, .inr (2, [.ref q_cells, .ref q_beginnings, .int x_height, .int x_width, .int x_imageHeight])), (q_cells, .inl (k_cells, 32, .inr (.inl x_cells)))])) (qz_RD_cell dC dI q_this q_cells q_beginnings k_cells x_height x_width x_imageHeight x_cells post (va_A [(q_this, .inr (2, [.ref q_cells, .ref q_beginnings, .int x_height, .int x_width, .int x_imageHeight])), (q_cells, .inl (k_cells, 32, .inr (.inl x_cells)))] sz)) 0 0 (va_A [(q_this, .inr (2, [.ref q_cells, .ref q_beginnings, .int x_height, .int x_width, .int x_imageHeight])), (q_cells, .inl (k_cells, 32, .inr (.inl x_cells)))] sz) := by
  refine Met.ofW (cc := b_RD_cell) (maxL := 3) (ret := (some .long)) (by decide) rfl ?_
  intro p e s m args below meth c s₁ B hml hv
  obtain ⟨rfl, hsz, hP, hK, hD0⟩ := hv
  have hx := B.exec
  have hb := B.bytes
  have hr := B.returns
  have hts0 := atoms_spec (ws := (zz_w y_RD_cell b_RD_cell 3 (some .long))) B.pre
  have hts : ∀ w ∈ zz_GW, w.before _ s = true := fun w h => hts0 w (List.mem_cons_of_mem _ h)
  clear hts0
  have hown : s.vm.findClass "StructureRows$Reduction" = some m.cls := findClass_of_methodNamed B.named
  have hlocks := B.notSynchronized
  have C0 : cx_RD_cell p s m _ meth c := ⟨hx, hb, hr, hml, hown, hts, hlocks⟩
  subst hsz
  have hD := hD0.self (sz := s.heap.size)
  generalize hAe : va_A [(q_this, .inr (2, [.ref q_cells, .ref q_beginnings, .int x_height, .int x_width, .int x_imageHeight])), (q_cells, .inl (k_cells, 32, .inr (.inl x_cells)))] s.heap.size = A at hD ⊢
  have hA : ∀ q : Nat, s.heap.size ≤ q → A q := fun q h => by rw [← hAe]; exact Or.inr h
  clear hAe hD0
  have hS : va_S A s.heap s.heap [] := va_S.rf
  have hl := lv_entry ([.ref q_this, .int a_0, .int a_1]) (n := 3) (Nat.le_of_ble_eq_true rfl)
  rw [lg_entry_eq]
  generalize (lg_sl ([.ref q_this, .int a_0, .int a_1]) ++ List.replicate (3 - (lg_sl ([.ref q_this, .int a_0, .int a_1])).length) Slot.unset).toArray = ls at hl ⊢
  replace hl : lv_has ls 3 [(0, .ref q_this), (1, .int a_0), (2, .int a_1)] := hl
  unfold wp_RD_cell at hw
  change W p l e rm_RD_cell s m _ below meth c s.heap [] 0 0 _ _
  refine lv_aload_n hx hb d_RD_cell_0 rfl (lv_at hl 0 rfl) ?_
  refine va_get (D := (dC, dI)) (ci := 2) (v := .ref q_cells) (C := "StructureRows$Reduction") (T := T_RD) (N := 5) hx hb hts in_RD hown hK hP 0 rfl rfl 0 (by decide) (hts _ tw_58) (fun _ h9 => h9) rfl d_RD_cell_1 ?_
  refine lv_iload_n hx hb d_RD_cell_4 rfl (lv_at hl 1 rfl) ?_
  refine lv_bipush (v := 8) hx hb d_RD_cell_5 (by decide) ?_
  refine lv_imul hx hb d_RD_cell_7 ?_
  refine lv_iload_n hx hb d_RD_cell_8 rfl (lv_at hl 2 rfl) ?_
  refine lv_iadd hx hb d_RD_cell_9 ?_
  obtain ⟨h_1, hw⟩ := hw
  refine va_lald hx hb hK hP 1 0 rfl rfl h_1 d_RD_cell_10 ?_
  exact W.lret (v := x_cells ((a_0 * 8) + a_1).toNatClampNeg) hx hb hr (fun t ht hW => ⟨⟨x_cells ((a_0 * 8) + a_1).toNatClampNeg, (), rfl, hw, by rw [ht]; exact hP, va_K.moved hW.alike hK, hD⟩, hS.F ht⟩) hS.2.2 d_RD_cell_11
set_option maxHeartbeats 4000000 in
set_option maxRecDepth 100000 in
theorem go_RD_cell {p : Program} {l : Launch} {e : Env} {R : Room} {s : State} {m : MethodId} {args : Array Value} {below : List Frame} {meth : Method} {c : Code} {H : Heap} {locs : List Loc} {cells slots : Nat} {Q : State → Prop} {cc : ByteArray} {nL : Nat} {Ts : List Cond} {own : String} {index : Nat} {A0 : Nat → Prop} {H0 : Heap} {dC : Nat → ClassId} {dI : Nat → Nat → Nat} {ws wr : va_W} {tys : List (ClassId × FieldType)} {q_this q_cells q_beginnings : Nat} {k_cells : ClassId} {x_height : Int32} {x_width : Int32} {x_imageHeight : Int32} {x_cells : Nat → Int64} {a_0 : Int32} {a_1 : Int32} {post : Int64 → Prop} (S : CallFix p m c cc nL s args Ts own) (cw : CallW R s args own "StructureRows$Reduction" index y_RD_cell b_RD_cell 3 (some .long) (zz_w y_RD_cell b_RD_cell 3 (some .long)) rm_RD_cell 0 0 2) (hK : va_K (dC, dI) zz_cl tys s) (hP : va_P (dC, dI) zz_cl ws H) (hD : va_D A0 ws) (hS : va_S A0 H0 H locs) (hA : ∀ q, H0.size ≤ q → A0 q) (isC isR kt : List Nat) (h1 : isC.filterMap (fun i => ws[i]?) = [(q_this, .inr (2, [.ref q_cells, .ref q_beginnings, .int x_height, .int x_width, .int x_imageHeight])), (q_cells, .inl (k_cells, 32, .inr (.inl x_cells)))]) (h2 : isC.map (fun i => ws[i]?) = ([(q_this, .inr (2, [.ref q_cells, .ref q_beginnings, .int x_height, .int x_width, .int x_imageHeight])), (q_cells, .inl (k_cells, 32, .inr (.inl x_cells)))] : va_W).map some) (h3 : va_nd isC = true) (h4 : isR.map (fun i => ws[i]?) = wr.map some) (h5 : va_nd isR = true) (h6 : ∀ i ∈ isR, i ∉ isC) (h7 : kt.filterMap (fun i => tys[i]?) = [(k_cells, .long)]) (hw : wp_RD_cell x_height x_width x_imageHeight x_cells a_0 a_1 post) {pc : Nat} {ls : Array Slot} {rest : List Value} (hsize : ls.size = nL) (hrest : (rest.map fun v => v.category).sum ≤ 8) (hdg : decode cc pc = .ok (.invokevirtual index, 3)) (hf : cells + 0 ≤ R.cells ∧ slots + 0 ≤ R.slots) (kk : ∀ (r : Int64) (H1 : Heap) (locs1 : List Loc), post r → va_P (dC, dI) zz_cl (wr ++ [(q_this, .inr (2, [.ref q_cells, .ref q_beginnings, .int x_height, .int x_width, .int x_imageHeight])), (q_cells, .inl (k_cells, 32, .inr (.inl x_cells)))]) H1 → va_D A0 (wr ++ [(q_this, .inr (2, [.ref q_cells, .ref q_beginnings, .int x_height, .int x_width, .int x_imageHeight])), (q_cells, .inl (k_cells, 32, .inr (.inl x_cells)))]) → va_S A0 H0 H1 locs1 → W p l e R s m args below meth c H1 locs1 (cells + 0) (slots + 0) Q (F0 m (pc + 3) ls (.long r :: rest))) : W p l e R s m args below meth c H locs cells slots Q (F0 m pc ls (.int a_1 :: .int a_0 :: .ref q_this :: rest)) := by
  have hPc := hP.sub (ws' := [(q_this, .inr (2, [.ref q_cells, .ref q_beginnings, .int x_height, .int x_width, .int x_imageHeight])), (q_cells, .inl (k_cells, 32, .inr (.inl x_cells)))]) isC h1
  have hDc := hD.sub (ws' := [(q_this, .inr (2, [.ref q_cells, .ref q_beginnings, .int x_height, .int x_width, .int x_imageHeight])), (q_cells, .inl (k_cells, 32, .inr (.inl x_cells)))]) isC h3 h2
  have hKc := hK.sub (tys' := [(k_cells, .long)]) kt h7
  have hFc := va_free (wc := [(q_this, .inr (2, [.ref q_cells, .ref q_beginnings, .int x_height, .int x_width, .int x_imageHeight])), (q_cells, .inl (k_cells, 32, .inr (.inl x_cells)))]) hD hS hA isC h2
  refine va_calll (va_runV (As := [.int a_0, .int a_1]) (rest := rest) S (c_RD_cell l dC dI q_this q_cells q_beginnings k_cells H.size x_height x_width x_imageHeight x_cells a_0 a_1 post hw) cw ⟨zz_blind, va_recv hKc hPc (ci := 2) (q0 := 0) rfl rfl, fun U hU hW => ⟨rfl, by rw [hU], by rw [hU]; exact hPc, va_K.moved hW.alike hKc, hDc.weaken (fun _ _ _ _ => trivial)⟩⟩ rfl rfl hsize rfl (lv_room hrest) hdg hf) hS (fun q _ h => hFc q h) hFc (fun r u t H1 locs ht hvm hw hB hz1 hk1 hS => ?_)
  obtain ⟨hP1, hK1, hD1⟩ := hB
  rw [ht] at hP1
  obtain ⟨hP2, hD2⟩ := va_join (wr := wr) (w1 := [(q_this, .inr (2, [.ref q_cells, .ref q_beginnings, .int x_height, .int x_width, .int x_imageHeight])), (q_cells, .inl (k_cells, 32, .inr (.inl x_cells)))]) hP hD isC isR h2 h4 h5 h6 hk1 hFc hP1 hD1
  exact kk r H1 locs hw hP2 hD2 hS
abbrev rm_RD_set : Room := { frames := 0, cells := 0, slots := 0, locals := 0 }
abbrev qz_RD_set (dC : Nat → ClassId) (dI : Nat → Nat → Nat) (q_this q_cells q_beginnings : Nat) (k_cells : ClassId) (x_height : Int32) (x_width : Int32) (x_imageHeight : Int32) (post : (Nat → Int64) → Prop) (A : Nat → Prop) : Array Value → State → Outcome → State → Prop := va_Qv (fun (u : (Nat → Int64)) => post u) (fun (u : (Nat → Int64)) (t : State) => va_P (dC, dI) zz_cl [(q_this, .inr (2, [.ref q_cells, .ref q_beginnings, .int x_height, .int x_width, .int x_imageHeight])), (q_cells, .inl (k_cells, 32, .inr (.inl u)))] t.heap ∧ va_K (dC, dI) zz_cl [(k_cells, .long)] t ∧ va_D A [(q_this, .inr (2, [.ref q_cells, .ref q_beginnings, .int x_height, .int x_width, .int x_imageHeight])), (q_cells, .inl (k_cells, 32, .inr (.inl u)))]) A
def cx_RD_set (p : Program) (s : State) (m : MethodId) (args : Array Value) (meth : Method) (c : Code) : Prop := p.tables.exec = Jvm.exec ∧ c.code = b_RD_set ∧ meth.sig.returnType = none ∧ c.maxLocals = 5 ∧ s.vm.findClass "StructureRows$Reduction" = some m.cls ∧ (∀ w ∈ zz_GW, w.before args s = true) ∧ meth.locks = false
def wp_RD_set (x_height : Int32) (x_width : Int32) (x_imageHeight : Int32) (x_cells : Nat → Int64) (a_0 : Int32) (a_1 : Int32) (a_2 : Int64) (post : (Nat → Int64) → Prop) : Prop := vp_in ((a_0 * 8) + a_1) 32 ∧ ∀ w_2 : Nat → Int64, w_2 = vp_updL x_cells ((a_0 * 8) + a_1).toNatClampNeg a_2 → (post w_2)
set_option maxHeartbeats 4000000 in
set_option maxRecDepth 100000 in
theorem c_RD_set (l : Launch) (dC : Nat → ClassId) (dI : Nat → Nat → Nat) (q_this q_cells q_beginnings : Nat) (k_cells : ClassId) (sz : Nat) (x_height : Int32) (x_width : Int32) (x_imageHeight : Int32) (x_cells : Nat → Int64) (a_0 : Int32) (a_1 : Int32) (a_2 : Int64) (post : (Nat → Int64) → Prop) (hw : wp_RD_set x_height x_width x_imageHeight x_cells a_0 a_1 a_2 post) : Met l y_RD_set (zz_w y_RD_set b_RD_set 5 none) rm_RD_set (va_Pc [.ref q_this, .int a_0, .int a_1, .long a_2] (fun U => U.heap.size = sz ∧ va_P (dC, dI) zz_cl [(q_this, .inr (2, [.ref q_cells, .ref q_beginnings, .int x_height, .int x_width, .int x_imageHeight])), (q_cells, .inl (k_cells, 32, .inr (.inl x_cells)))] U.heap ∧ va_K (dC, dI) zz_cl [(k_cells, .long)] U ∧ va_D (fun _ => True) [(q_this, .inr (2, [.ref q_cells, .ref q_beginnings, .int x_height, .int x_width, .int x_imageHeight])), (q_cells, .inl (k_cells, 32, .inr (.inl x_cells)))])) (qz_RD_set dC dI q_this q_cells q_beginnings k_cells x_height x_width x_imageHeight post (va_A [(q_this, .inr (2, [.ref q_cells, .ref q_beginnings, .int x_height, .int x_width, .int x_imageHeight])), (q_cells, .inl (k_cells, 32, .inr (.inl x_cells)))] sz)) 0 0 (va_A [(q_this, .inr (2, [.ref q_cells, .ref q_beginnings, .int x_height, .int x_width, .int x_imageHeight])), (q_cells, .inl (k_cells, 32, .inr (.inl x_cells)))] sz) := by
  refine Met.ofW (cc := b_RD_set) (maxL := 5) (ret := none) (by decide) rfl ?_
  intro p e s m args below meth c s₁ B hml hv
  obtain ⟨rfl, hsz, hP, hK, hD0⟩ := hv
  have hx := B.exec
  have hb := B.bytes
  have hr := B.returns
  have hts0 := atoms_spec (ws := (zz_w y_RD_set b_RD_set 5 none)) B.pre
  have hts : ∀ w ∈ zz_GW, w.before _ s = true := fun w h => hts0 w (List.mem_cons_of_mem _ h)
  clear hts0
  have hown : s.vm.findClass "StructureRows$Reduction" = some m.cls := findClass_of_methodNamed B.named
  have hlocks := B.notSynchronized
  have C0 : cx_RD_set p s m _ meth c := ⟨hx, hb, hr, hml, hown, hts, hlocks⟩
  subst hsz
  have hD := hD0.self (sz := s.heap.size)
  generalize hAe : va_A [(q_this, .inr (2, [.ref q_cells, .ref q_beginnings, .int x_height, .int x_width, .int x_imageHeight])), (q_cells, .inl (k_cells, 32, .inr (.inl x_cells)))] s.heap.size = A at hD ⊢
  have hA : ∀ q : Nat, s.heap.size ≤ q → A q := fun q h => by rw [← hAe]; exact Or.inr h
  clear hAe hD0
  have hS : va_S A s.heap s.heap [] := va_S.rf
  have hl := lv_entry ([.ref q_this, .int a_0, .int a_1, .long a_2]) (n := 5) (Nat.le_of_ble_eq_true rfl)
  rw [lg_entry_eq]
  generalize (lg_sl ([.ref q_this, .int a_0, .int a_1, .long a_2]) ++ List.replicate (5 - (lg_sl ([.ref q_this, .int a_0, .int a_1, .long a_2])).length) Slot.unset).toArray = ls at hl ⊢
  replace hl : lv_has ls 5 [(0, .ref q_this), (1, .int a_0), (2, .int a_1), (3, .long a_2)] := hl
  unfold wp_RD_set at hw
  change W p l e rm_RD_set s m _ below meth c s.heap [] 0 0 _ _
  refine lv_aload_n hx hb d_RD_set_0 rfl (lv_at hl 0 rfl) ?_
  refine va_get (D := (dC, dI)) (ci := 2) (v := .ref q_cells) (C := "StructureRows$Reduction") (T := T_RD) (N := 5) hx hb hts in_RD hown hK hP 0 rfl rfl 0 (by decide) (hts _ tw_58) (fun _ h9 => h9) rfl d_RD_set_1 ?_
  refine lv_iload_n hx hb d_RD_set_4 rfl (lv_at hl 1 rfl) ?_
  refine lv_bipush (v := 8) hx hb d_RD_set_5 (by decide) ?_
  refine lv_imul hx hb d_RD_set_7 ?_
  refine lv_iload_n hx hb d_RD_set_8 rfl (lv_at hl 2 rfl) ?_
  refine lv_iadd hx hb d_RD_set_9 ?_
  refine lv_lload_n hx hb d_RD_set_10 rfl (lv_at hl 3 rfl) ?_
  obtain ⟨h_1, hw⟩ := hw
  obtain ⟨w_2, ew_2⟩ : ∃ y : Nat → Int64, y = vp_updL x_cells ((a_0 * 8) + a_1).toNatClampNeg a_2 := ⟨_, rfl⟩
  replace hw := hw w_2 ew_2
  refine va_last hx hb hK hP hD hS 1 0 rfl rfl h_1 d_RD_set_11 (fun H locs hP hD hS => ?_)
  rw [← ew_2] at hP hD
  replace hP : va_P (dC, dI) zz_cl [(q_this, .inr (2, [.ref q_cells, .ref q_beginnings, .int x_height, .int x_width, .int x_imageHeight])), (q_cells, .inl (k_cells, 32, .inr (.inl w_2)))] H := hP
  replace hD : va_D A [(q_this, .inr (2, [.ref q_cells, .ref q_beginnings, .int x_height, .int x_width, .int x_imageHeight])), (q_cells, .inl (k_cells, 32, .inr (.inl w_2)))] := hD
  exact W.vret hx hb hr (fun t ht hW => ⟨⟨w_2, rfl, hw, by rw [ht]; exact hP, va_K.moved hW.alike hK, hD⟩, hS.F ht⟩) hS.2.2 d_RD_set_12
set_option maxHeartbeats 4000000 in
set_option maxRecDepth 100000 in
theorem go_RD_set {p : Program} {l : Launch} {e : Env} {R : Room} {s : State} {m : MethodId} {args : Array Value} {below : List Frame} {meth : Method} {c : Code} {H : Heap} {locs : List Loc} {cells slots : Nat} {Q : State → Prop} {cc : ByteArray} {nL : Nat} {Ts : List Cond} {own : String} {index : Nat} {A0 : Nat → Prop} {H0 : Heap} {dC : Nat → ClassId} {dI : Nat → Nat → Nat} {ws wr : va_W} {tys : List (ClassId × FieldType)} {q_this q_cells q_beginnings : Nat} {k_cells : ClassId} {x_height : Int32} {x_width : Int32} {x_imageHeight : Int32} {x_cells : Nat → Int64} {a_0 : Int32} {a_1 : Int32} {a_2 : Int64} {post : (Nat → Int64) → Prop} (S : CallFix p m c cc nL s args Ts own) (cw : CallW R s args own "StructureRows$Reduction" index y_RD_set b_RD_set 5 none (zz_w y_RD_set b_RD_set 5 none) rm_RD_set 0 0 3) (hK : va_K (dC, dI) zz_cl tys s) (hP : va_P (dC, dI) zz_cl ws H) (hD : va_D A0 ws) (hS : va_S A0 H0 H locs) (hA : ∀ q, H0.size ≤ q → A0 q) (isC isR kt : List Nat) (h1 : isC.filterMap (fun i => ws[i]?) = [(q_this, .inr (2, [.ref q_cells, .ref q_beginnings, .int x_height, .int x_width, .int x_imageHeight])), (q_cells, .inl (k_cells, 32, .inr (.inl x_cells)))]) (h2 : isC.map (fun i => ws[i]?) = ([(q_this, .inr (2, [.ref q_cells, .ref q_beginnings, .int x_height, .int x_width, .int x_imageHeight])), (q_cells, .inl (k_cells, 32, .inr (.inl x_cells)))] : va_W).map some) (h3 : va_nd isC = true) (h4 : isR.map (fun i => ws[i]?) = wr.map some) (h5 : va_nd isR = true) (h6 : ∀ i ∈ isR, i ∉ isC) (h7 : kt.filterMap (fun i => tys[i]?) = [(k_cells, .long)]) (hw : wp_RD_set x_height x_width x_imageHeight x_cells a_0 a_1 a_2 post) {pc : Nat} {ls : Array Slot} {rest : List Value} (hsize : ls.size = nL) (hrest : (rest.map fun v => v.category).sum ≤ 8) (hdg : decode cc pc = .ok (.invokevirtual index, 3)) (hf : cells + 0 ≤ R.cells ∧ slots + 0 ≤ R.slots) (kk : ∀ (m0 : Nat → Int64) (H1 : Heap) (locs1 : List Loc), post m0 → va_P (dC, dI) zz_cl (wr ++ [(q_this, .inr (2, [.ref q_cells, .ref q_beginnings, .int x_height, .int x_width, .int x_imageHeight])), (q_cells, .inl (k_cells, 32, .inr (.inl m0)))]) H1 → va_D A0 (wr ++ [(q_this, .inr (2, [.ref q_cells, .ref q_beginnings, .int x_height, .int x_width, .int x_imageHeight])), (q_cells, .inl (k_cells, 32, .inr (.inl m0)))]) → va_S A0 H0 H1 locs1 → W p l e R s m args below meth c H1 locs1 (cells + 0) (slots + 0) Q (F0 m (pc + 3) ls rest)) : W p l e R s m args below meth c H locs cells slots Q (F0 m pc ls (.long a_2 :: .int a_1 :: .int a_0 :: .ref q_this :: rest)) := by
  have hPc := hP.sub (ws' := [(q_this, .inr (2, [.ref q_cells, .ref q_beginnings, .int x_height, .int x_width, .int x_imageHeight])), (q_cells, .inl (k_cells, 32, .inr (.inl x_cells)))]) isC h1
  have hDc := hD.sub (ws' := [(q_this, .inr (2, [.ref q_cells, .ref q_beginnings, .int x_height, .int x_width, .int x_imageHeight])), (q_cells, .inl (k_cells, 32, .inr (.inl x_cells)))]) isC h3 h2
  have hKc := hK.sub (tys' := [(k_cells, .long)]) kt h7
  have hFc := va_free (wc := [(q_this, .inr (2, [.ref q_cells, .ref q_beginnings, .int x_height, .int x_width, .int x_imageHeight])), (q_cells, .inl (k_cells, 32, .inr (.inl x_cells)))]) hD hS hA isC h2
  refine va_callv (va_runV (As := [.int a_0, .int a_1, .long a_2]) (rest := rest) S (c_RD_set l dC dI q_this q_cells q_beginnings k_cells H.size x_height x_width x_imageHeight x_cells a_0 a_1 a_2 post hw) cw ⟨zz_blind, va_recv hKc hPc (ci := 2) (q0 := 0) rfl rfl, fun U hU hW => ⟨rfl, by rw [hU], by rw [hU]; exact hPc, va_K.moved hW.alike hKc, hDc.weaken (fun _ _ _ _ => trivial)⟩⟩ rfl rfl hsize rfl (lv_room hrest) hdg hf) hS (fun q _ h => hFc q h) hFc (fun u t H1 locs ht hvm hw hB hz1 hk1 hS => ?_)
  obtain ⟨hP1, hK1, hD1⟩ := hB
  rw [ht] at hP1
  obtain ⟨hP2, hD2⟩ := va_join (wr := wr) (w1 := [(q_this, .inr (2, [.ref q_cells, .ref q_beginnings, .int x_height, .int x_width, .int x_imageHeight])), (q_cells, .inl (k_cells, 32, .inr (.inl u)))]) hP hD isC isR h2 h4 h5 h6 hk1 hFc hP1 hD1
  exact kk u H1 locs hw hP2 hD2 hS
abbrev rm_RD_takeAway : Room := { frames := 1, cells := 0, slots := 0, locals := 24 }
abbrev qz_RD_takeAway (dC : Nat → ClassId) (dI : Nat → Nat → Nat) (q_this q_cells q_beginnings : Nat) (k_cells : ClassId) (x_height : Int32) (x_width : Int32) (x_imageHeight : Int32) (post : (Nat → Int64) → Prop) (A : Nat → Prop) : Array Value → State → Outcome → State → Prop := va_Qv (fun (u : (Nat → Int64)) => post u) (fun (u : (Nat → Int64)) (t : State) => va_P (dC, dI) zz_cl [(q_this, .inr (2, [.ref q_cells, .ref q_beginnings, .int x_height, .int x_width, .int x_imageHeight])), (q_cells, .inl (k_cells, 32, .inr (.inl u)))] t.heap ∧ va_K (dC, dI) zz_cl [(k_cells, .long)] t ∧ va_D A [(q_this, .inr (2, [.ref q_cells, .ref q_beginnings, .int x_height, .int x_width, .int x_imageHeight])), (q_cells, .inl (k_cells, 32, .inr (.inl u)))]) A
def cx_RD_takeAway (p : Program) (s : State) (m : MethodId) (args : Array Value) (meth : Method) (c : Code) : Prop := p.tables.exec = Jvm.exec ∧ c.code = b_RD_takeAway ∧ meth.sig.returnType = none ∧ c.maxLocals = 6 ∧ s.vm.findClass "StructureRows$Reduction" = some m.cls ∧ (∀ w ∈ zz_GW, w.before args s = true) ∧ meth.locks = false
def wp_RD_takeAway_10b (x_height : Int32) (x_width : Int32) (x_imageHeight : Int32) (u_1 : Int32) (u_2 : Int32) (u_3 : Int64) (post : (Nat → Int64) → Prop)  (P : (Nat → Int64) → Int32 → Prop) (x_cells : Nat → Int64) (u_5 : Int32) : Prop := ((x_width + x_height) ≤ u_5 → (post x_cells)) ∧ (¬ (x_width + x_height) ≤ u_5 → (wp_RD_cell x_height x_width x_imageHeight x_cells u_1 u_5 (fun (r_3 : Int64) => (wp_RD_cell x_height x_width x_imageHeight x_cells u_2 u_5 (fun (r_4 : Int64) => (wp_RD_set x_height x_width x_imageHeight x_cells u_1 u_5 (r_3 - (u_3 * r_4)) (fun (m_5 : Nat → Int64) => (∀ v_6 : Int32, v_6 = u_5 + 1 → (P m_5 v_6)))))))))
def wp_RD_takeAway_10 (x_height : Int32) (x_width : Int32) (x_imageHeight : Int32) (u_1 : Int32) (u_2 : Int32) (u_3 : Int64) (post : (Nat → Int64) → Prop)  (x_cells : Nat → Int64) (u_5 : Int32) : Prop := ∀ P : (Nat → Int64) → Int32 → Prop, (∀ (x_cells : Nat → Int64) (u_5 : Int32), wp_RD_takeAway_10b x_height x_width x_imageHeight u_1 u_2 u_3 post P x_cells u_5 → P x_cells u_5) → P x_cells u_5
set_option maxHeartbeats 4000000 in
set_option maxRecDepth 100000 in
theorem k_RD_takeAway_10 {p : Program} {l : Launch} {e : Env} {s : State} {m : MethodId} {args : Array Value} {below : List Frame} {meth : Method} {c : Code} {dC : Nat → ClassId} {dI : Nat → Nat → Nat} {A : Nat → Prop} {q_this q_cells q_beginnings : Nat} {k_cells : ClassId} {x_height : Int32} {x_width : Int32} {x_imageHeight : Int32} {u_1 : Int32} {u_2 : Int32} {u_3 : Int64} {post : (Nat → Int64) → Prop}  (C0 : cx_RD_takeAway p s m args meth c) (hA : ∀ q : Nat, s.heap.size ≤ q → A q) (hK : va_K (dC, dI) zz_cl [(k_cells, .long)] s) {x_cells : Nat → Int64} {u_5 : Int32} (hw : wp_RD_takeAway_10 x_height x_width x_imageHeight u_1 u_2 u_3 post x_cells u_5) {H : Heap} {locs : List Loc} {ls : Array Slot} (hP : va_P (dC, dI) zz_cl [(q_this, .inr (2, [.ref q_cells, .ref q_beginnings, .int x_height, .int x_width, .int x_imageHeight])), (q_cells, .inl (k_cells, 32, .inr (.inl x_cells)))] H) (hD : va_D A [(q_this, .inr (2, [.ref q_cells, .ref q_beginnings, .int x_height, .int x_width, .int x_imageHeight])), (q_cells, .inl (k_cells, 32, .inr (.inl x_cells)))]) (hS : va_S A s.heap H locs) (hl : lv_has ls 6 [(0, .ref q_this), (1, .int u_1), (2, .int u_2), (3, .long u_3), (5, .int u_5)]) : W p l e rm_RD_takeAway s m args below meth c H locs 0 0 (MQ below (qz_RD_takeAway dC dI q_this q_cells q_beginnings k_cells x_height x_width x_imageHeight post A) args s 0 0 A) (F0 m 10 ls []) := by
  have C1 := C0
  obtain ⟨hx, hb, hr, hml, hown, hts, hlocks⟩ := C1
  refine hw (fun (x_cells : Nat → Int64) (u_5 : Int32) => ∀ (H : Heap) (locs : List Loc) (ls : Array Slot), va_P (dC, dI) zz_cl [(q_this, .inr (2, [.ref q_cells, .ref q_beginnings, .int x_height, .int x_width, .int x_imageHeight])), (q_cells, .inl (k_cells, 32, .inr (.inl x_cells)))] H → va_D A [(q_this, .inr (2, [.ref q_cells, .ref q_beginnings, .int x_height, .int x_width, .int x_imageHeight])), (q_cells, .inl (k_cells, 32, .inr (.inl x_cells)))] → va_S A s.heap H locs → lv_has ls 6 [(0, .ref q_this), (1, .int u_1), (2, .int u_2), (3, .long u_3), (5, .int u_5)] → W p l e rm_RD_takeAway s m args below meth c H locs 0 0 (MQ below (qz_RD_takeAway dC dI q_this q_cells q_beginnings k_cells x_height x_width x_imageHeight post A) args s 0 0 A) (F0 m 10 ls [])) ?_ H locs ls hP hD hS hl
  clear hw hP hD hS hl H locs ls
  intro x_cells u_5 hw H locs ls hP hD hS hl
  unfold wp_RD_takeAway_10b at hw
  refine lv_iload hx hb d_RD_takeAway_10 (lv_at hl 4 rfl) ?_
  refine lv_aload_n hx hb d_RD_takeAway_12 rfl (lv_at hl 0 rfl) ?_
  refine va_get (D := (dC, dI)) (ci := 2) (v := .int x_width) (C := "StructureRows$Reduction") (T := T_RD) (N := 5) hx hb hts in_RD hown hK hP 0 rfl rfl 3 (by decide) (hts _ tw_61) (fun _ h9 => h9) rfl d_RD_takeAway_13 ?_
  refine lv_aload_n hx hb d_RD_takeAway_16 rfl (lv_at hl 0 rfl) ?_
  refine va_get (D := (dC, dI)) (ci := 2) (v := .int x_height) (C := "StructureRows$Reduction") (T := T_RD) (N := 5) hx hb hts in_RD hown hK hP 0 rfl rfl 2 (by decide) (hts _ tw_60) (fun _ h9 => h9) rfl d_RD_takeAway_17 ?_
  refine lv_iadd hx hb d_RD_takeAway_20 ?_
  refine lv_icmp_ge (tgt := 54) hx hb d_RD_takeAway_21 (by decide) (fun h_2 => ?_) (fun h_2 => ?_)
  · replace hw := hw.1 h_2
    exact W.vret hx hb hr (fun t ht hW => ⟨⟨x_cells, rfl, hw, by rw [ht]; exact hP, va_K.moved hW.alike hK, hD⟩, hS.F ht⟩) hS.2.2 d_RD_takeAway_54
  · replace hw := hw.2 h_2
    refine lv_aload_n hx hb d_RD_takeAway_24 rfl (lv_at hl 0 rfl) ?_
    refine lv_iload_n hx hb d_RD_takeAway_25 rfl (lv_at hl 1 rfl) ?_
    refine lv_iload hx hb d_RD_takeAway_26 (lv_at hl 4 rfl) ?_
    refine lv_aload_n hx hb d_RD_takeAway_28 rfl (lv_at hl 0 rfl) ?_
    refine lv_iload_n hx hb d_RD_takeAway_29 rfl (lv_at hl 1 rfl) ?_
    refine lv_iload hx hb d_RD_takeAway_30 (lv_at hl 4 rfl) ?_
    refine go_RD_cell (wr := []) ⟨hx, hb, hml, hown, hts⟩ (zz_cwV 2 hts tw_164 tw_161 tw_163 tw_2 tw_32 ⟨by decide, by decide, by decide +kernel⟩ ⟨Nat.le_of_ble_eq_true rfl, Nat.le_of_ble_eq_true rfl⟩) hK hP hD hS hA [0, 1] [] [0] rfl rfl (by decide) rfl (by decide) (by decide) rfl hw hl.1 (Nat.le_of_ble_eq_true rfl) d_RD_takeAway_32 ⟨Nat.le_of_ble_eq_true rfl, Nat.le_of_ble_eq_true rfl⟩ (fun r_3 H locs hw hP hD hS => ?_)
    replace hP : va_P (dC, dI) zz_cl [(q_this, .inr (2, [.ref q_cells, .ref q_beginnings, .int x_height, .int x_width, .int x_imageHeight])), (q_cells, .inl (k_cells, 32, .inr (.inl x_cells)))] H := hP
    replace hD : va_D A [(q_this, .inr (2, [.ref q_cells, .ref q_beginnings, .int x_height, .int x_width, .int x_imageHeight])), (q_cells, .inl (k_cells, 32, .inr (.inl x_cells)))] := hD
    refine lv_lload_n hx hb d_RD_takeAway_35 rfl (lv_at hl 3 rfl) ?_
    refine lv_aload_n hx hb d_RD_takeAway_36 rfl (lv_at hl 0 rfl) ?_
    refine lv_iload_n hx hb d_RD_takeAway_37 rfl (lv_at hl 2 rfl) ?_
    refine lv_iload hx hb d_RD_takeAway_38 (lv_at hl 4 rfl) ?_
    refine go_RD_cell (wr := []) ⟨hx, hb, hml, hown, hts⟩ (zz_cwV 2 hts tw_164 tw_161 tw_163 tw_2 tw_32 ⟨by decide, by decide, by decide +kernel⟩ ⟨Nat.le_of_ble_eq_true rfl, Nat.le_of_ble_eq_true rfl⟩) hK hP hD hS hA [0, 1] [] [0] rfl rfl (by decide) rfl (by decide) (by decide) rfl hw hl.1 (Nat.le_of_ble_eq_true rfl) d_RD_takeAway_40 ⟨Nat.le_of_ble_eq_true rfl, Nat.le_of_ble_eq_true rfl⟩ (fun r_4 H locs hw hP hD hS => ?_)
    replace hP : va_P (dC, dI) zz_cl [(q_this, .inr (2, [.ref q_cells, .ref q_beginnings, .int x_height, .int x_width, .int x_imageHeight])), (q_cells, .inl (k_cells, 32, .inr (.inl x_cells)))] H := hP
    replace hD : va_D A [(q_this, .inr (2, [.ref q_cells, .ref q_beginnings, .int x_height, .int x_width, .int x_imageHeight])), (q_cells, .inl (k_cells, 32, .inr (.inl x_cells)))] := hD
    refine lv_lmul hx hb d_RD_takeAway_43 ?_
    refine lv_lsub hx hb d_RD_takeAway_44 ?_
    refine go_RD_set (wr := []) ⟨hx, hb, hml, hown, hts⟩ (zz_cwV 3 hts tw_151 tw_148 tw_149 tw_150 tw_32 ⟨by decide, by decide, by decide +kernel⟩ ⟨Nat.le_of_ble_eq_true rfl, Nat.le_of_ble_eq_true rfl⟩) hK hP hD hS hA [0, 1] [] [0] rfl rfl (by decide) rfl (by decide) (by decide) rfl hw hl.1 (Nat.le_of_ble_eq_true rfl) d_RD_takeAway_45 ⟨Nat.le_of_ble_eq_true rfl, Nat.le_of_ble_eq_true rfl⟩ (fun m_5 H locs hw hP hD hS => ?_)
    replace hP : va_P (dC, dI) zz_cl [(q_this, .inr (2, [.ref q_cells, .ref q_beginnings, .int x_height, .int x_width, .int x_imageHeight])), (q_cells, .inl (k_cells, 32, .inr (.inl m_5)))] H := hP
    replace hD : va_D A [(q_this, .inr (2, [.ref q_cells, .ref q_beginnings, .int x_height, .int x_width, .int x_imageHeight])), (q_cells, .inl (k_cells, 32, .inr (.inl m_5)))] := hD
    obtain ⟨v_6, ev_6⟩ : ∃ y : Int32, y = u_5 + 1 := ⟨_, rfl⟩
    replace hw := hw v_6 ev_6
    refine lv_iinc (v := v_6) (lv' := [(5, .int v_6), (0, .ref q_this), (1, .int u_1), (2, .int u_2), (3, .long u_3)]) hx hb d_RD_takeAway_48 hl (k := 4) rfl (by rw [ev_6]; rfl) (by decide) rfl (fun ls hl => ?_)
    refine lv_goto (tgt := 10) hx hb d_RD_takeAway_51 (by decide) ?_
    exact hw H locs ls hP hD hS (lv_sub hl [1, 2, 3, 4, 0] rfl)
def wp_RD_takeAway (x_height : Int32) (x_width : Int32) (x_imageHeight : Int32) (x_cells : Nat → Int64) (a_0 : Int32) (a_1 : Int32) (a_2 : Int64) (post : (Nat → Int64) → Prop) : Prop := (¬ (lg_cmp a_2 0) = 0 → (wp_RD_takeAway_10 x_height x_width x_imageHeight a_0 a_1 a_2 post x_cells 0)) ∧ (¬ (¬ (lg_cmp a_2 0) = 0) → (post x_cells))
set_option maxHeartbeats 4000000 in
set_option maxRecDepth 100000 in
theorem c_RD_takeAway (l : Launch) (dC : Nat → ClassId) (dI : Nat → Nat → Nat) (q_this q_cells q_beginnings : Nat) (k_cells : ClassId) (sz : Nat) (x_height : Int32) (x_width : Int32) (x_imageHeight : Int32) (x_cells : Nat → Int64) (a_0 : Int32) (a_1 : Int32) (a_2 : Int64) (post : (Nat → Int64) → Prop) (hw : wp_RD_takeAway x_height x_width x_imageHeight x_cells a_0 a_1 a_2 post) : Met l y_RD_takeAway (zz_w y_RD_takeAway b_RD_takeAway 6 none) rm_RD_takeAway (va_Pc [.ref q_this, .int a_0, .int a_1, .long a_2] (fun U => U.heap.size = sz ∧ va_P (dC, dI) zz_cl [(q_this, .inr (2, [.ref q_cells, .ref q_beginnings, .int x_height, .int x_width, .int x_imageHeight])), (q_cells, .inl (k_cells, 32, .inr (.inl x_cells)))] U.heap ∧ va_K (dC, dI) zz_cl [(k_cells, .long)] U ∧ va_D (fun _ => True) [(q_this, .inr (2, [.ref q_cells, .ref q_beginnings, .int x_height, .int x_width, .int x_imageHeight])), (q_cells, .inl (k_cells, 32, .inr (.inl x_cells)))])) (qz_RD_takeAway dC dI q_this q_cells q_beginnings k_cells x_height x_width x_imageHeight post (va_A [(q_this, .inr (2, [.ref q_cells, .ref q_beginnings, .int x_height, .int x_width, .int x_imageHeight])), (q_cells, .inl (k_cells, 32, .inr (.inl x_cells)))] sz)) 0 0 (va_A [(q_this, .inr (2, [.ref q_cells, .ref q_beginnings, .int x_height, .int x_width, .int x_imageHeight])), (q_cells, .inl (k_cells, 32, .inr (.inl x_cells)))] sz) := by
  refine Met.ofW (cc := b_RD_takeAway) (maxL := 6) (ret := none) (by decide) rfl ?_
  intro p e s m args below meth c s₁ B hml hv
  obtain ⟨rfl, hsz, hP, hK, hD0⟩ := hv
  have hx := B.exec
  have hb := B.bytes
  have hr := B.returns
  have hts0 := atoms_spec (ws := (zz_w y_RD_takeAway b_RD_takeAway 6 none)) B.pre
  have hts : ∀ w ∈ zz_GW, w.before _ s = true := fun w h => hts0 w (List.mem_cons_of_mem _ h)
  clear hts0
  have hown : s.vm.findClass "StructureRows$Reduction" = some m.cls := findClass_of_methodNamed B.named
  have hlocks := B.notSynchronized
  have C0 : cx_RD_takeAway p s m _ meth c := ⟨hx, hb, hr, hml, hown, hts, hlocks⟩
  subst hsz
  have hD := hD0.self (sz := s.heap.size)
  generalize hAe : va_A [(q_this, .inr (2, [.ref q_cells, .ref q_beginnings, .int x_height, .int x_width, .int x_imageHeight])), (q_cells, .inl (k_cells, 32, .inr (.inl x_cells)))] s.heap.size = A at hD ⊢
  have hA : ∀ q : Nat, s.heap.size ≤ q → A q := fun q h => by rw [← hAe]; exact Or.inr h
  clear hAe hD0
  have hS : va_S A s.heap s.heap [] := va_S.rf
  have hl := lv_entry ([.ref q_this, .int a_0, .int a_1, .long a_2]) (n := 6) (Nat.le_of_ble_eq_true rfl)
  rw [lg_entry_eq]
  generalize (lg_sl ([.ref q_this, .int a_0, .int a_1, .long a_2]) ++ List.replicate (6 - (lg_sl ([.ref q_this, .int a_0, .int a_1, .long a_2])).length) Slot.unset).toArray = ls at hl ⊢
  replace hl : lv_has ls 6 [(0, .ref q_this), (1, .int a_0), (2, .int a_1), (3, .long a_2)] := hl
  unfold wp_RD_takeAway at hw
  change W p l e rm_RD_takeAway s m _ below meth c s.heap [] 0 0 _ _
  refine lv_lload_n hx hb d_RD_takeAway_0 rfl (lv_at hl 3 rfl) ?_
  refine lv_lconst (v := 0) hx hb d_RD_takeAway_1 (by decide) ?_
  refine W.lcmp hx hb d_RD_takeAway_2 ?_
  refine lv_if_ne (tgt := 7) hx hb d_RD_takeAway_3 (by decide) (fun h_1 => ?_) (fun h_1 => ?_)
  · replace hw := hw.1 h_1
    refine lv_iconst (v := 0) hx hb d_RD_takeAway_7 (by decide) ?_
    refine lv_istore (lv' := [(5, .int 0), (0, .ref q_this), (1, .int a_0), (2, .int a_1), (3, .long a_2)]) hx hb d_RD_takeAway_8 hl (by decide) rfl (fun ls hl => ?_)
    exact k_RD_takeAway_10 C0 hA hK hw hP hD hS (lv_sub hl [1, 2, 3, 4, 0] rfl)
  · replace hw := hw.2 h_1
    exact W.vret hx hb hr (fun t ht hW => ⟨⟨x_cells, rfl, hw, by rw [ht]; exact hP, va_K.moved hW.alike hK, hD⟩, hS.F ht⟩) hS.2.2 d_RD_takeAway_6
set_option maxHeartbeats 4000000 in
set_option maxRecDepth 100000 in
theorem go_RD_takeAway {p : Program} {l : Launch} {e : Env} {R : Room} {s : State} {m : MethodId} {args : Array Value} {below : List Frame} {meth : Method} {c : Code} {H : Heap} {locs : List Loc} {cells slots : Nat} {Q : State → Prop} {cc : ByteArray} {nL : Nat} {Ts : List Cond} {own : String} {index : Nat} {A0 : Nat → Prop} {H0 : Heap} {dC : Nat → ClassId} {dI : Nat → Nat → Nat} {ws wr : va_W} {tys : List (ClassId × FieldType)} {q_this q_cells q_beginnings : Nat} {k_cells : ClassId} {x_height : Int32} {x_width : Int32} {x_imageHeight : Int32} {x_cells : Nat → Int64} {a_0 : Int32} {a_1 : Int32} {a_2 : Int64} {post : (Nat → Int64) → Prop} (S : CallFix p m c cc nL s args Ts own) (cw : CallW R s args own "StructureRows$Reduction" index y_RD_takeAway b_RD_takeAway 6 none (zz_w y_RD_takeAway b_RD_takeAway 6 none) rm_RD_takeAway 0 0 3) (hK : va_K (dC, dI) zz_cl tys s) (hP : va_P (dC, dI) zz_cl ws H) (hD : va_D A0 ws) (hS : va_S A0 H0 H locs) (hA : ∀ q, H0.size ≤ q → A0 q) (isC isR kt : List Nat) (h1 : isC.filterMap (fun i => ws[i]?) = [(q_this, .inr (2, [.ref q_cells, .ref q_beginnings, .int x_height, .int x_width, .int x_imageHeight])), (q_cells, .inl (k_cells, 32, .inr (.inl x_cells)))]) (h2 : isC.map (fun i => ws[i]?) = ([(q_this, .inr (2, [.ref q_cells, .ref q_beginnings, .int x_height, .int x_width, .int x_imageHeight])), (q_cells, .inl (k_cells, 32, .inr (.inl x_cells)))] : va_W).map some) (h3 : va_nd isC = true) (h4 : isR.map (fun i => ws[i]?) = wr.map some) (h5 : va_nd isR = true) (h6 : ∀ i ∈ isR, i ∉ isC) (h7 : kt.filterMap (fun i => tys[i]?) = [(k_cells, .long)]) (hw : wp_RD_takeAway x_height x_width x_imageHeight x_cells a_0 a_1 a_2 post) {pc : Nat} {ls : Array Slot} {rest : List Value} (hsize : ls.size = nL) (hrest : (rest.map fun v => v.category).sum ≤ 8) (hdg : decode cc pc = .ok (.invokevirtual index, 3)) (hf : cells + 0 ≤ R.cells ∧ slots + 0 ≤ R.slots) (kk : ∀ (m0 : Nat → Int64) (H1 : Heap) (locs1 : List Loc), post m0 → va_P (dC, dI) zz_cl (wr ++ [(q_this, .inr (2, [.ref q_cells, .ref q_beginnings, .int x_height, .int x_width, .int x_imageHeight])), (q_cells, .inl (k_cells, 32, .inr (.inl m0)))]) H1 → va_D A0 (wr ++ [(q_this, .inr (2, [.ref q_cells, .ref q_beginnings, .int x_height, .int x_width, .int x_imageHeight])), (q_cells, .inl (k_cells, 32, .inr (.inl m0)))]) → va_S A0 H0 H1 locs1 → W p l e R s m args below meth c H1 locs1 (cells + 0) (slots + 0) Q (F0 m (pc + 3) ls rest)) : W p l e R s m args below meth c H locs cells slots Q (F0 m pc ls (.long a_2 :: .int a_1 :: .int a_0 :: .ref q_this :: rest)) := by
  have hPc := hP.sub (ws' := [(q_this, .inr (2, [.ref q_cells, .ref q_beginnings, .int x_height, .int x_width, .int x_imageHeight])), (q_cells, .inl (k_cells, 32, .inr (.inl x_cells)))]) isC h1
  have hDc := hD.sub (ws' := [(q_this, .inr (2, [.ref q_cells, .ref q_beginnings, .int x_height, .int x_width, .int x_imageHeight])), (q_cells, .inl (k_cells, 32, .inr (.inl x_cells)))]) isC h3 h2
  have hKc := hK.sub (tys' := [(k_cells, .long)]) kt h7
  have hFc := va_free (wc := [(q_this, .inr (2, [.ref q_cells, .ref q_beginnings, .int x_height, .int x_width, .int x_imageHeight])), (q_cells, .inl (k_cells, 32, .inr (.inl x_cells)))]) hD hS hA isC h2
  refine va_callv (va_runV (As := [.int a_0, .int a_1, .long a_2]) (rest := rest) S (c_RD_takeAway l dC dI q_this q_cells q_beginnings k_cells H.size x_height x_width x_imageHeight x_cells a_0 a_1 a_2 post hw) cw ⟨zz_blind, va_recv hKc hPc (ci := 2) (q0 := 0) rfl rfl, fun U hU hW => ⟨rfl, by rw [hU], by rw [hU]; exact hPc, va_K.moved hW.alike hKc, hDc.weaken (fun _ _ _ _ => trivial)⟩⟩ rfl rfl hsize rfl (lv_room hrest) hdg hf) hS (fun q _ h => hFc q h) hFc (fun u t H1 locs ht hvm hw hB hz1 hk1 hS => ?_)
  obtain ⟨hP1, hK1, hD1⟩ := hB
  rw [ht] at hP1
  obtain ⟨hP2, hD2⟩ := va_join (wr := wr) (w1 := [(q_this, .inr (2, [.ref q_cells, .ref q_beginnings, .int x_height, .int x_width, .int x_imageHeight])), (q_cells, .inl (k_cells, 32, .inr (.inl u)))]) hP hD isC isR h2 h4 h5 h6 hk1 hFc hP1 hD1
  exact kk u H1 locs hw hP2 hD2 hS
