abbrev rm_MD_thrown : Room := { frames := 0, cells := 0, slots := 0, locals := 0 }
abbrev qz_MD_thrown (dC : Nat → ClassId) (dI : Nat → Nat → Nat) (q_this q_numbers q_stair q_begins q_row q_matrix q_told q_across q_power q_left q_minors : Nat) (x_code : Int32) (x_elements : Int32) (x_many : Int32) (x_known : Int32) (post : Int32 → Prop) (A : Nat → Prop) : Array Value → State → Outcome → State → Prop := va_Qi (fun (r : Int32) (_ : Unit) => post r) (fun (u : Unit) (t : State) => va_P (dC, dI) zz_cl [(q_this, .inr (4, [.int x_code, .int x_elements, .ref q_numbers, .ref q_stair, .ref q_begins, .ref q_row, .ref q_matrix, .int x_many, .ref q_told, .ref q_across, .int x_known, .ref q_power, .ref q_left, .ref q_minors]))] t.heap ∧ va_K (dC, dI) zz_cl [] t ∧ va_D A [(q_this, .inr (4, [.int x_code, .int x_elements, .ref q_numbers, .ref q_stair, .ref q_begins, .ref q_row, .ref q_matrix, .int x_many, .ref q_told, .ref q_across, .int x_known, .ref q_power, .ref q_left, .ref q_minors]))]) A
def cx_MD_thrown (p : Program) (s : State) (m : MethodId) (args : Array Value) (meth : Method) (c : Code) : Prop := p.tables.exec = Jvm.exec ∧ c.code = b_MD_thrown ∧ meth.sig.returnType = (some .int) ∧ c.maxLocals = 1 ∧ s.vm.findClass "StructureRowsModel" = some m.cls ∧ (∀ w ∈ zz_GW, w.before args s = true) ∧ meth.locks = false
def wp_MD_thrown (x_code : Int32) (x_elements : Int32) (x_many : Int32) (x_known : Int32)  (post : Int32 → Prop) : Prop := post x_code
set_option maxHeartbeats 4000000 in
set_option maxRecDepth 100000 in
theorem c_MD_thrown (l : Launch) (dC : Nat → ClassId) (dI : Nat → Nat → Nat) (q_this q_numbers q_stair q_begins q_row q_matrix q_told q_across q_power q_left q_minors : Nat) (sz : Nat) (x_code : Int32) (x_elements : Int32) (x_many : Int32) (x_known : Int32)  (post : Int32 → Prop) (hw : wp_MD_thrown x_code x_elements x_many x_known post) : Met l y_MD_thrown (zz_w y_MD_thrown b_MD_thrown 1 (some .int)) rm_MD_thrown (va_Pc [.ref q_this] (fun U => U.heap.size = sz ∧ va_P (dC, dI) zz_cl [(q_this, .inr (4, [.int x_code, .int x_elements, .ref q_numbers, .ref q_stair, .ref q_begins, .ref q_row, .ref q_matrix, .int x_many, .ref q_told, .ref q_across, .int x_known, .ref q_power, .ref q_left, .ref q_minors]))] U.heap ∧ va_K (dC, dI) zz_cl [] U ∧ va_D (fun _ => True) [(q_this, .inr (4, [.int x_code, .int x_elements, .ref q_numbers, .ref q_stair, .ref q_begins, .ref q_row, .ref q_matrix, .int x_many, .ref q_told, .ref q_across, .int x_known, .ref q_power, .ref q_left, .ref q_minors]))])) (qz_MD_thrown dC dI q_this q_numbers q_stair q_begins q_row q_matrix q_told q_across q_power q_left q_minors x_code x_elements x_many x_known post (va_A [(q_this, .inr (4, [.int x_code, .int x_elements, .ref q_numbers, .ref q_stair, .ref q_begins, .ref q_row, .ref q_matrix, .int x_many, .ref q_told, .ref q_across, .int x_known, .ref q_power, .ref q_left, .ref q_minors]))] sz)) 0 0 (va_A [(q_this, .inr (4, [.int x_code, .int x_elements, .ref q_numbers, .ref q_stair, .ref q_begins, .ref q_row, .ref q_matrix, .int x_many, .ref q_told, .ref q_across, .int x_known, .ref q_power, .ref q_left, .ref q_minors]))] sz) := by
  refine Met.ofW (cc := b_MD_thrown) (maxL := 1) (ret := (some .int)) (by decide) rfl ?_
  intro p e s m args below meth c s₁ B hml hv
  obtain ⟨rfl, hsz, hP, hK, hD0⟩ := hv
  have hx := B.exec
  have hb := B.bytes
  have hr := B.returns
  have hts0 := atoms_spec (ws := (zz_w y_MD_thrown b_MD_thrown 1 (some .int))) B.pre
  have hts : ∀ w ∈ zz_GW, w.before _ s = true := fun w h => hts0 w (List.mem_cons_of_mem _ h)
  clear hts0
  have hown : s.vm.findClass "StructureRowsModel" = some m.cls := findClass_of_methodNamed B.named
  have hlocks := B.notSynchronized
  have C0 : cx_MD_thrown p s m _ meth c := ⟨hx, hb, hr, hml, hown, hts, hlocks⟩
  subst hsz
  have hD := hD0.self (sz := s.heap.size)
  generalize hAe : va_A [(q_this, .inr (4, [.int x_code, .int x_elements, .ref q_numbers, .ref q_stair, .ref q_begins, .ref q_row, .ref q_matrix, .int x_many, .ref q_told, .ref q_across, .int x_known, .ref q_power, .ref q_left, .ref q_minors]))] s.heap.size = A at hD ⊢
  have hA : ∀ q : Nat, s.heap.size ≤ q → A q := fun q h => by rw [← hAe]; exact Or.inr h
  clear hAe hD0
  have hS : va_S A s.heap s.heap [] := va_S.rf
  have hl := lv_entry ([.ref q_this]) (n := 1) (Nat.le_of_ble_eq_true rfl)
  rw [lg_entry_eq]
  generalize (lg_sl ([.ref q_this]) ++ List.replicate (1 - (lg_sl ([.ref q_this])).length) Slot.unset).toArray = ls at hl ⊢
  replace hl : lv_has ls 1 [(0, .ref q_this)] := hl
  unfold wp_MD_thrown at hw
  change W p l e rm_MD_thrown s m _ below meth c s.heap [] 0 0 _ _
  refine lv_aload_n hx hb d_MD_thrown_0 rfl (lv_at hl 0 rfl) ?_
  refine va_get (D := (dC, dI)) (ci := 4) (v := .int x_code) (C := "StructureRowsModel") (T := T_MD) (N := 14) hx hb hts in_MD hown hK hP 0 rfl rfl 0 (by decide) (hts _ tw_483) (fun _ h9 => h9) rfl d_MD_thrown_1 ?_
  exact W.iret (v := x_code) hx hb hr (fun t ht hW => ⟨⟨x_code, (), rfl, hw, by rw [ht]; exact hP, va_K.moved hW.alike hK, hD⟩, hS.F ht⟩) hS.2.2 d_MD_thrown_4
set_option maxHeartbeats 4000000 in
set_option maxRecDepth 100000 in
theorem go_MD_thrown {p : Program} {l : Launch} {e : Env} {R : Room} {s : State} {m : MethodId} {args : Array Value} {below : List Frame} {meth : Method} {c : Code} {H : Heap} {locs : List Loc} {cells slots : Nat} {Q : State → Prop} {cc : ByteArray} {nL : Nat} {Ts : List Cond} {own : String} {index : Nat} {A0 : Nat → Prop} {H0 : Heap} {dC : Nat → ClassId} {dI : Nat → Nat → Nat} {ws wr : va_W} {tys : List (ClassId × FieldType)} {q_this q_numbers q_stair q_begins q_row q_matrix q_told q_across q_power q_left q_minors : Nat} {x_code : Int32} {x_elements : Int32} {x_many : Int32} {x_known : Int32}  {post : Int32 → Prop} (S : CallFix p m c cc nL s args Ts own) (cw : CallW R s args own "StructureRowsModel" index y_MD_thrown b_MD_thrown 1 (some .int) (zz_w y_MD_thrown b_MD_thrown 1 (some .int)) rm_MD_thrown 0 0 0) (hK : va_K (dC, dI) zz_cl tys s) (hP : va_P (dC, dI) zz_cl ws H) (hD : va_D A0 ws) (hS : va_S A0 H0 H locs) (hA : ∀ q, H0.size ≤ q → A0 q) (isC isR kt : List Nat) (h1 : isC.filterMap (fun i => ws[i]?) = [(q_this, .inr (4, [.int x_code, .int x_elements, .ref q_numbers, .ref q_stair, .ref q_begins, .ref q_row, .ref q_matrix, .int x_many, .ref q_told, .ref q_across, .int x_known, .ref q_power, .ref q_left, .ref q_minors]))]) (h2 : isC.map (fun i => ws[i]?) = ([(q_this, .inr (4, [.int x_code, .int x_elements, .ref q_numbers, .ref q_stair, .ref q_begins, .ref q_row, .ref q_matrix, .int x_many, .ref q_told, .ref q_across, .int x_known, .ref q_power, .ref q_left, .ref q_minors]))] : va_W).map some) (h3 : va_nd isC = true) (h4 : isR.map (fun i => ws[i]?) = wr.map some) (h5 : va_nd isR = true) (h6 : ∀ i ∈ isR, i ∉ isC) (h7 : kt.filterMap (fun i => tys[i]?) = []) (hw : wp_MD_thrown x_code x_elements x_many x_known post) {pc : Nat} {ls : Array Slot} {rest : List Value} (hsize : ls.size = nL) (hrest : (rest.map fun v => v.category).sum ≤ 8) (hdg : decode cc pc = .ok (.invokevirtual index, 3)) (hf : cells + 0 ≤ R.cells ∧ slots + 0 ≤ R.slots) (kk : ∀ (r : Int32) (H1 : Heap) (locs1 : List Loc), post r → va_P (dC, dI) zz_cl (wr ++ [(q_this, .inr (4, [.int x_code, .int x_elements, .ref q_numbers, .ref q_stair, .ref q_begins, .ref q_row, .ref q_matrix, .int x_many, .ref q_told, .ref q_across, .int x_known, .ref q_power, .ref q_left, .ref q_minors]))]) H1 → va_D A0 (wr ++ [(q_this, .inr (4, [.int x_code, .int x_elements, .ref q_numbers, .ref q_stair, .ref q_begins, .ref q_row, .ref q_matrix, .int x_many, .ref q_told, .ref q_across, .int x_known, .ref q_power, .ref q_left, .ref q_minors]))]) → va_S A0 H0 H1 locs1 → W p l e R s m args below meth c H1 locs1 (cells + 0) (slots + 0) Q (F0 m (pc + 3) ls (.int r :: rest))) : W p l e R s m args below meth c H locs cells slots Q (F0 m pc ls (.ref q_this :: rest)) := by
  have hPc := hP.sub (ws' := [(q_this, .inr (4, [.int x_code, .int x_elements, .ref q_numbers, .ref q_stair, .ref q_begins, .ref q_row, .ref q_matrix, .int x_many, .ref q_told, .ref q_across, .int x_known, .ref q_power, .ref q_left, .ref q_minors]))]) isC h1
  have hDc := hD.sub (ws' := [(q_this, .inr (4, [.int x_code, .int x_elements, .ref q_numbers, .ref q_stair, .ref q_begins, .ref q_row, .ref q_matrix, .int x_many, .ref q_told, .ref q_across, .int x_known, .ref q_power, .ref q_left, .ref q_minors]))]) isC h3 h2
  have hKc := hK.sub (tys' := []) kt h7
  have hFc := va_free (wc := [(q_this, .inr (4, [.int x_code, .int x_elements, .ref q_numbers, .ref q_stair, .ref q_begins, .ref q_row, .ref q_matrix, .int x_many, .ref q_told, .ref q_across, .int x_known, .ref q_power, .ref q_left, .ref q_minors]))]) hD hS hA isC h2
  refine va_calli (va_runV (As := []) (rest := rest) S (c_MD_thrown l dC dI q_this q_numbers q_stair q_begins q_row q_matrix q_told q_across q_power q_left q_minors H.size x_code x_elements x_many x_known post hw) cw ⟨zz_blind, va_recv hKc hPc (ci := 4) (q0 := 0) rfl rfl, fun U hU hW => ⟨rfl, by rw [hU], by rw [hU]; exact hPc, va_K.moved hW.alike hKc, hDc.weaken (fun _ _ _ _ => trivial)⟩⟩ rfl rfl hsize rfl (lv_room hrest) hdg hf) hS (fun q _ h => hFc q h) hFc (fun r u t H1 locs ht hvm hw hB hz1 hk1 hS => ?_)
  obtain ⟨hP1, hK1, hD1⟩ := hB
  rw [ht] at hP1
  obtain ⟨hP2, hD2⟩ := va_join (wr := wr) (w1 := [(q_this, .inr (4, [.int x_code, .int x_elements, .ref q_numbers, .ref q_stair, .ref q_begins, .ref q_row, .ref q_matrix, .int x_many, .ref q_told, .ref q_across, .int x_known, .ref q_power, .ref q_left, .ref q_minors]))]) hP hD isC isR h2 h4 h5 h6 hk1 hFc hP1 hD1
  exact kk r H1 locs hw hP2 hD2 hS
abbrev rm_MD_raise : Room := { frames := 0, cells := 0, slots := 0, locals := 0 }
abbrev qz_MD_raise (dC : Nat → ClassId) (dI : Nat → Nat → Nat) (q_this q_numbers q_stair q_begins q_row q_matrix q_told q_across q_power q_left q_minors : Nat) (x_elements : Int32) (x_many : Int32) (x_known : Int32) (post : Int32 → Int32 → Prop) (A : Nat → Prop) : Array Value → State → Outcome → State → Prop := va_Qi (fun (r : Int32) (u : Int32) => post r u) (fun (u : Int32) (t : State) => va_P (dC, dI) zz_cl [(q_this, .inr (4, [.int u, .int x_elements, .ref q_numbers, .ref q_stair, .ref q_begins, .ref q_row, .ref q_matrix, .int x_many, .ref q_told, .ref q_across, .int x_known, .ref q_power, .ref q_left, .ref q_minors]))] t.heap ∧ va_K (dC, dI) zz_cl [] t ∧ va_D A [(q_this, .inr (4, [.int u, .int x_elements, .ref q_numbers, .ref q_stair, .ref q_begins, .ref q_row, .ref q_matrix, .int x_many, .ref q_told, .ref q_across, .int x_known, .ref q_power, .ref q_left, .ref q_minors]))]) A
def cx_MD_raise (p : Program) (s : State) (m : MethodId) (args : Array Value) (meth : Method) (c : Code) : Prop := p.tables.exec = Jvm.exec ∧ c.code = b_MD_raise ∧ meth.sig.returnType = (some .int) ∧ c.maxLocals = 2 ∧ s.vm.findClass "StructureRowsModel" = some m.cls ∧ (∀ w ∈ zz_GW, w.before args s = true) ∧ meth.locks = false
def wp_MD_raise (x_code : Int32) (x_elements : Int32) (x_many : Int32) (x_known : Int32) (a_0 : Int32) (post : Int32 → Int32 → Prop) : Prop := post 0 a_0
set_option maxHeartbeats 4000000 in
set_option maxRecDepth 100000 in
theorem c_MD_raise (l : Launch) (dC : Nat → ClassId) (dI : Nat → Nat → Nat) (q_this q_numbers q_stair q_begins q_row q_matrix q_told q_across q_power q_left q_minors : Nat) (sz : Nat) (x_code : Int32) (x_elements : Int32) (x_many : Int32) (x_known : Int32) (a_0 : Int32) (post : Int32 → Int32 → Prop) (hw : wp_MD_raise x_code x_elements x_many x_known a_0 post) : Met l y_MD_raise (zz_w y_MD_raise b_MD_raise 2 (some .int)) rm_MD_raise (va_Pc [.ref q_this, .int a_0] (fun U => U.heap.size = sz ∧ va_P (dC, dI) zz_cl [(q_this, .inr (4, [.int x_code, .int x_elements, .ref q_numbers, .ref q_stair, .ref q_begins, .ref q_row, .ref q_matrix, .int x_many, .ref q_told, .ref q_across, .int x_known, .ref q_power, .ref q_left, .ref q_minors]))] U.heap ∧ va_K (dC, dI) zz_cl [] U ∧ va_D (fun _ => True) [(q_this, .inr (4, [.int x_code, .int x_elements, .ref q_numbers, .ref q_stair, .ref q_begins, .ref q_row, .ref q_matrix, .int x_many, .ref q_told, .ref q_across, .int x_known, .ref q_power, .ref q_left, .ref q_minors]))])) (qz_MD_raise dC dI q_this q_numbers q_stair q_begins q_row q_matrix q_told q_across q_power q_left q_minors x_elements x_many x_known post (va_A [(q_this, .inr (4, [.int x_code, .int x_elements, .ref q_numbers, .ref q_stair, .ref q_begins, .ref q_row, .ref q_matrix, .int x_many, .ref q_told, .ref q_across, .int x_known, .ref q_power, .ref q_left, .ref q_minors]))] sz)) 0 0 (va_A [(q_this, .inr (4, [.int x_code, .int x_elements, .ref q_numbers, .ref q_stair, .ref q_begins, .ref q_row, .ref q_matrix, .int x_many, .ref q_told, .ref q_across, .int x_known, .ref q_power, .ref q_left, .ref q_minors]))] sz) := by
  refine Met.ofW (cc := b_MD_raise) (maxL := 2) (ret := (some .int)) (by decide) rfl ?_
  intro p e s m args below meth c s₁ B hml hv
  obtain ⟨rfl, hsz, hP, hK, hD0⟩ := hv
  have hx := B.exec
  have hb := B.bytes
  have hr := B.returns
  have hts0 := atoms_spec (ws := (zz_w y_MD_raise b_MD_raise 2 (some .int))) B.pre
  have hts : ∀ w ∈ zz_GW, w.before _ s = true := fun w h => hts0 w (List.mem_cons_of_mem _ h)
  clear hts0
  have hown : s.vm.findClass "StructureRowsModel" = some m.cls := findClass_of_methodNamed B.named
  have hlocks := B.notSynchronized
  have C0 : cx_MD_raise p s m _ meth c := ⟨hx, hb, hr, hml, hown, hts, hlocks⟩
  subst hsz
  have hD := hD0.self (sz := s.heap.size)
  generalize hAe : va_A [(q_this, .inr (4, [.int x_code, .int x_elements, .ref q_numbers, .ref q_stair, .ref q_begins, .ref q_row, .ref q_matrix, .int x_many, .ref q_told, .ref q_across, .int x_known, .ref q_power, .ref q_left, .ref q_minors]))] s.heap.size = A at hD ⊢
  have hA : ∀ q : Nat, s.heap.size ≤ q → A q := fun q h => by rw [← hAe]; exact Or.inr h
  clear hAe hD0
  have hS : va_S A s.heap s.heap [] := va_S.rf
  have hl := lv_entry ([.ref q_this, .int a_0]) (n := 2) (Nat.le_of_ble_eq_true rfl)
  rw [lg_entry_eq]
  generalize (lg_sl ([.ref q_this, .int a_0]) ++ List.replicate (2 - (lg_sl ([.ref q_this, .int a_0])).length) Slot.unset).toArray = ls at hl ⊢
  replace hl : lv_has ls 2 [(0, .ref q_this), (1, .int a_0)] := hl
  unfold wp_MD_raise at hw
  change W p l e rm_MD_raise s m _ below meth c s.heap [] 0 0 _ _
  refine lv_aload_n hx hb d_MD_raise_0 rfl (lv_at hl 0 rfl) ?_
  refine lv_iload_n hx hb d_MD_raise_1 rfl (lv_at hl 1 rfl) ?_
  refine va_put (D := (dC, dI)) (ci := 4) (v := .int a_0) (ty := .int) (C := "StructureRowsModel") (T := T_MD) (N := 14) hx hb hts in_MD ty_MD tyok_MD nm_MD hown hK hP hD hS 0 rfl rfl 0 (by decide) (hts _ tw_483) (fun _ h9 => h9) rfl (by decide +kernel) rfl rfl (Nat.le_of_ble_eq_true rfl) d_MD_raise_2 (fun H locs hP hD hS => ?_)
  replace hP : va_P (dC, dI) zz_cl [(q_this, .inr (4, [.int a_0, .int x_elements, .ref q_numbers, .ref q_stair, .ref q_begins, .ref q_row, .ref q_matrix, .int x_many, .ref q_told, .ref q_across, .int x_known, .ref q_power, .ref q_left, .ref q_minors]))] H := hP
  replace hD : va_D A [(q_this, .inr (4, [.int a_0, .int x_elements, .ref q_numbers, .ref q_stair, .ref q_begins, .ref q_row, .ref q_matrix, .int x_many, .ref q_told, .ref q_across, .int x_known, .ref q_power, .ref q_left, .ref q_minors]))] := hD
  refine lv_iconst (v := 0) hx hb d_MD_raise_5 (by decide) ?_
  exact W.iret (v := 0) hx hb hr (fun t ht hW => ⟨⟨0, a_0, rfl, hw, by rw [ht]; exact hP, va_K.moved hW.alike hK, hD⟩, hS.F ht⟩) hS.2.2 d_MD_raise_6
set_option maxHeartbeats 4000000 in
set_option maxRecDepth 100000 in
theorem go_MD_raise {p : Program} {l : Launch} {e : Env} {R : Room} {s : State} {m : MethodId} {args : Array Value} {below : List Frame} {meth : Method} {c : Code} {H : Heap} {locs : List Loc} {cells slots : Nat} {Q : State → Prop} {cc : ByteArray} {nL : Nat} {Ts : List Cond} {own : String} {index : Nat} {A0 : Nat → Prop} {H0 : Heap} {dC : Nat → ClassId} {dI : Nat → Nat → Nat} {ws wr : va_W} {tys : List (ClassId × FieldType)} {q_this q_numbers q_stair q_begins q_row q_matrix q_told q_across q_power q_left q_minors : Nat} {x_code : Int32} {x_elements : Int32} {x_many : Int32} {x_known : Int32} {a_0 : Int32} {post : Int32 → Int32 → Prop} (S : CallFix p m c cc nL s args Ts own) (cw : CallW R s args own "StructureRowsModel" index y_MD_raise b_MD_raise 2 (some .int) (zz_w y_MD_raise b_MD_raise 2 (some .int)) rm_MD_raise 0 0 1) (hK : va_K (dC, dI) zz_cl tys s) (hP : va_P (dC, dI) zz_cl ws H) (hD : va_D A0 ws) (hS : va_S A0 H0 H locs) (hA : ∀ q, H0.size ≤ q → A0 q) (isC isR kt : List Nat) (h1 : isC.filterMap (fun i => ws[i]?) = [(q_this, .inr (4, [.int x_code, .int x_elements, .ref q_numbers, .ref q_stair, .ref q_begins, .ref q_row, .ref q_matrix, .int x_many, .ref q_told, .ref q_across, .int x_known, .ref q_power, .ref q_left, .ref q_minors]))]) (h2 : isC.map (fun i => ws[i]?) = ([(q_this, .inr (4, [.int x_code, .int x_elements, .ref q_numbers, .ref q_stair, .ref q_begins, .ref q_row, .ref q_matrix, .int x_many, .ref q_told, .ref q_across, .int x_known, .ref q_power, .ref q_left, .ref q_minors]))] : va_W).map some) (h3 : va_nd isC = true) (h4 : isR.map (fun i => ws[i]?) = wr.map some) (h5 : va_nd isR = true) (h6 : ∀ i ∈ isR, i ∉ isC) (h7 : kt.filterMap (fun i => tys[i]?) = []) (hw : wp_MD_raise x_code x_elements x_many x_known a_0 post) {pc : Nat} {ls : Array Slot} {rest : List Value} (hsize : ls.size = nL) (hrest : (rest.map fun v => v.category).sum ≤ 8) (hdg : decode cc pc = .ok (.invokevirtual index, 3)) (hf : cells + 0 ≤ R.cells ∧ slots + 0 ≤ R.slots) (kk : ∀ (r : Int32) (m0 : Int32) (H1 : Heap) (locs1 : List Loc), post r m0 → va_P (dC, dI) zz_cl (wr ++ [(q_this, .inr (4, [.int m0, .int x_elements, .ref q_numbers, .ref q_stair, .ref q_begins, .ref q_row, .ref q_matrix, .int x_many, .ref q_told, .ref q_across, .int x_known, .ref q_power, .ref q_left, .ref q_minors]))]) H1 → va_D A0 (wr ++ [(q_this, .inr (4, [.int m0, .int x_elements, .ref q_numbers, .ref q_stair, .ref q_begins, .ref q_row, .ref q_matrix, .int x_many, .ref q_told, .ref q_across, .int x_known, .ref q_power, .ref q_left, .ref q_minors]))]) → va_S A0 H0 H1 locs1 → W p l e R s m args below meth c H1 locs1 (cells + 0) (slots + 0) Q (F0 m (pc + 3) ls (.int r :: rest))) : W p l e R s m args below meth c H locs cells slots Q (F0 m pc ls (.int a_0 :: .ref q_this :: rest)) := by
  have hPc := hP.sub (ws' := [(q_this, .inr (4, [.int x_code, .int x_elements, .ref q_numbers, .ref q_stair, .ref q_begins, .ref q_row, .ref q_matrix, .int x_many, .ref q_told, .ref q_across, .int x_known, .ref q_power, .ref q_left, .ref q_minors]))]) isC h1
  have hDc := hD.sub (ws' := [(q_this, .inr (4, [.int x_code, .int x_elements, .ref q_numbers, .ref q_stair, .ref q_begins, .ref q_row, .ref q_matrix, .int x_many, .ref q_told, .ref q_across, .int x_known, .ref q_power, .ref q_left, .ref q_minors]))]) isC h3 h2
  have hKc := hK.sub (tys' := []) kt h7
  have hFc := va_free (wc := [(q_this, .inr (4, [.int x_code, .int x_elements, .ref q_numbers, .ref q_stair, .ref q_begins, .ref q_row, .ref q_matrix, .int x_many, .ref q_told, .ref q_across, .int x_known, .ref q_power, .ref q_left, .ref q_minors]))]) hD hS hA isC h2
  refine va_calli (va_runV (As := [.int a_0]) (rest := rest) S (c_MD_raise l dC dI q_this q_numbers q_stair q_begins q_row q_matrix q_told q_across q_power q_left q_minors H.size x_code x_elements x_many x_known a_0 post hw) cw ⟨zz_blind, va_recv hKc hPc (ci := 4) (q0 := 0) rfl rfl, fun U hU hW => ⟨rfl, by rw [hU], by rw [hU]; exact hPc, va_K.moved hW.alike hKc, hDc.weaken (fun _ _ _ _ => trivial)⟩⟩ rfl rfl hsize rfl (lv_room hrest) hdg hf) hS (fun q _ h => hFc q h) hFc (fun r u t H1 locs ht hvm hw hB hz1 hk1 hS => ?_)
  obtain ⟨hP1, hK1, hD1⟩ := hB
  rw [ht] at hP1
  obtain ⟨hP2, hD2⟩ := va_join (wr := wr) (w1 := [(q_this, .inr (4, [.int u, .int x_elements, .ref q_numbers, .ref q_stair, .ref q_begins, .ref q_row, .ref q_matrix, .int x_many, .ref q_told, .ref q_across, .int x_known, .ref q_power, .ref q_left, .ref q_minors]))]) hP hD isC isR h2 h4 h5 h6 hk1 hFc hP1 hD1
  exact kk r u H1 locs hw hP2 hD2 hS
abbrev rm_MD_in : Room := { frames := 0, cells := 0, slots := 0, locals := 0 }
abbrev qz_MD_in (dC : Nat → ClassId) (dI : Nat → Nat → Nat)  (post : Int32 → Prop) (A : Nat → Prop) : Array Value → State → Outcome → State → Prop := va_Qi (fun (r : Int32) (_ : Unit) => post r) (fun (u : Unit) (t : State) => va_P (dC, dI) zz_cl [] t.heap ∧ va_K (dC, dI) zz_cl [] t ∧ va_D A []) A
def cx_MD_in (p : Program) (s : State) (m : MethodId) (args : Array Value) (meth : Method) (c : Code) : Prop := p.tables.exec = Jvm.exec ∧ c.code = b_MD_in ∧ meth.sig.returnType = (some .boolean) ∧ c.maxLocals = 6 ∧ s.vm.findClass "StructureRowsModel" = some m.cls ∧ (∀ w ∈ zz_GW, w.before args s = true) ∧ meth.locks = false
def wp_MD_in  (a_0 : Int64) (a_1 : Int64) (a_2 : Int64) (post : Int32 → Prop) : Prop := ((lg_cmp a_0 a_1) < 0 → (post 0)) ∧ (¬ (lg_cmp a_0 a_1) < 0 → ((0 < (lg_cmp a_0 a_2) → (post 0)) ∧ (¬ 0 < (lg_cmp a_0 a_2) → (post 1))))
set_option maxHeartbeats 4000000 in
set_option maxRecDepth 100000 in
theorem c_MD_in (l : Launch) (dC : Nat → ClassId) (dI : Nat → Nat → Nat) (sz : Nat)  (a_0 : Int64) (a_1 : Int64) (a_2 : Int64) (post : Int32 → Prop) (hw : wp_MD_in a_0 a_1 a_2 post) : Met l y_MD_in (zz_w y_MD_in b_MD_in 6 (some .boolean)) rm_MD_in (va_Pc [.long a_0, .long a_1, .long a_2] (fun U => U.heap.size = sz ∧ va_P (dC, dI) zz_cl [] U.heap ∧ va_K (dC, dI) zz_cl [] U ∧ va_D (fun _ => True) [])) (qz_MD_in dC dI post (va_A [] sz)) 0 0 (va_A [] sz) := by
  refine Met.ofW (cc := b_MD_in) (maxL := 6) (ret := (some .boolean)) (by decide) rfl ?_
  intro p e s m args below meth c s₁ B hml hv
  obtain ⟨rfl, hsz, hP, hK, hD0⟩ := hv
  have hx := B.exec
  have hb := B.bytes
  have hr := B.returns
  have hts0 := atoms_spec (ws := (zz_w y_MD_in b_MD_in 6 (some .boolean))) B.pre
  have hts : ∀ w ∈ zz_GW, w.before _ s = true := fun w h => hts0 w (List.mem_cons_of_mem _ h)
  clear hts0
  have hown : s.vm.findClass "StructureRowsModel" = some m.cls := findClass_of_methodNamed B.named
  have hlocks := B.notSynchronized
  have C0 : cx_MD_in p s m _ meth c := ⟨hx, hb, hr, hml, hown, hts, hlocks⟩
  subst hsz
  have hD := hD0.self (sz := s.heap.size)
  generalize hAe : va_A [] s.heap.size = A at hD ⊢
  have hA : ∀ q : Nat, s.heap.size ≤ q → A q := fun q h => by rw [← hAe]; exact Or.inr h
  clear hAe hD0
  have hS : va_S A s.heap s.heap [] := va_S.rf
  have hl := lv_entry ([.long a_0, .long a_1, .long a_2]) (n := 6) (Nat.le_of_ble_eq_true rfl)
  rw [lg_entry_eq]
  generalize (lg_sl ([.long a_0, .long a_1, .long a_2]) ++ List.replicate (6 - (lg_sl ([.long a_0, .long a_1, .long a_2])).length) Slot.unset).toArray = ls at hl ⊢
  replace hl : lv_has ls 6 [(0, .long a_0), (2, .long a_1), (4, .long a_2)] := hl
  unfold wp_MD_in at hw
  change W p l e rm_MD_in s m _ below meth c s.heap [] 0 0 _ _
  refine lv_lload_n hx hb d_MD_in_0 rfl (lv_at hl 0 rfl) ?_
  refine lv_lload_n hx hb d_MD_in_1 rfl (lv_at hl 1 rfl) ?_
  refine W.lcmp hx hb d_MD_in_2 ?_
  refine lv_if_lt (tgt := 17) hx hb d_MD_in_3 (by decide) (fun h_1 => ?_) (fun h_1 => ?_)
  · replace hw := hw.1 h_1
    refine lv_iconst (v := 0) hx hb d_MD_in_17 (by decide) ?_
    exact W.zret (v := 0) (ty := .boolean) hx hb hr rfl (fun t ht hW => ⟨⟨0, (), rfl, hw, by rw [ht]; exact hP, va_K.moved hW.alike hK, hD⟩, hS.F ht⟩) hS.2.2 d_MD_in_18
  · replace hw := hw.2 h_1
    refine lv_lload_n hx hb d_MD_in_6 rfl (lv_at hl 0 rfl) ?_
    refine lv_lload hx hb d_MD_in_7 (lv_at hl 2 rfl) ?_
    refine W.lcmp hx hb d_MD_in_9 ?_
    refine lv_if_gt (tgt := 17) hx hb d_MD_in_10 (by decide) (fun h_2 => ?_) (fun h_2 => ?_)
    · replace hw := hw.1 h_2
      refine lv_iconst (v := 0) hx hb d_MD_in_17 (by decide) ?_
      exact W.zret (v := 0) (ty := .boolean) hx hb hr rfl (fun t ht hW => ⟨⟨0, (), rfl, hw, by rw [ht]; exact hP, va_K.moved hW.alike hK, hD⟩, hS.F ht⟩) hS.2.2 d_MD_in_18
    · replace hw := hw.2 h_2
      refine lv_iconst (v := 1) hx hb d_MD_in_13 (by decide) ?_
      refine lv_goto (tgt := 18) hx hb d_MD_in_14 (by decide) ?_
      exact W.zret (v := 1) (ty := .boolean) hx hb hr rfl (fun t ht hW => ⟨⟨1, (), rfl, hw, by rw [ht]; exact hP, va_K.moved hW.alike hK, hD⟩, hS.F ht⟩) hS.2.2 d_MD_in_18
set_option maxHeartbeats 4000000 in
set_option maxRecDepth 100000 in
theorem go_MD_in {p : Program} {l : Launch} {e : Env} {R : Room} {s : State} {m : MethodId} {args : Array Value} {below : List Frame} {meth : Method} {c : Code} {H : Heap} {locs : List Loc} {cells slots : Nat} {Q : State → Prop} {cc : ByteArray} {nL : Nat} {Ts : List Cond} {own : String} {index : Nat} {A0 : Nat → Prop} {H0 : Heap} {dC : Nat → ClassId} {dI : Nat → Nat → Nat} {ws wr : va_W} {tys : List (ClassId × FieldType)}  {a_0 : Int64} {a_1 : Int64} {a_2 : Int64} {post : Int32 → Prop} (S : CallFix p m c cc nL s args Ts own) (cw : CallB R s args own index y_MD_in b_MD_in 6 (some .boolean) (zz_w y_MD_in b_MD_in 6 (some .boolean)) rm_MD_in 0 0 3 ∧ (Cond.static y_MD_in).before args s = true) (hK : va_K (dC, dI) zz_cl tys s) (hP : va_P (dC, dI) zz_cl ws H) (hD : va_D A0 ws) (hS : va_S A0 H0 H locs) (hA : ∀ q, H0.size ≤ q → A0 q) (isC isR kt : List Nat) (h1 : isC.filterMap (fun i => ws[i]?) = []) (h2 : isC.map (fun i => ws[i]?) = ([] : va_W).map some) (h3 : va_nd isC = true) (h4 : isR.map (fun i => ws[i]?) = wr.map some) (h5 : va_nd isR = true) (h6 : ∀ i ∈ isR, i ∉ isC) (h7 : kt.filterMap (fun i => tys[i]?) = []) (hw : wp_MD_in a_0 a_1 a_2 post) {pc : Nat} {ls : Array Slot} {rest : List Value} (hsize : ls.size = nL) (hrest : (rest.map fun v => v.category).sum ≤ 8) (hdg : decode cc pc = .ok (.invokestatic index, 3)) (hf : cells + 0 ≤ R.cells ∧ slots + 0 ≤ R.slots) (kk : ∀ (r : Int32) (H1 : Heap) (locs1 : List Loc), post r → va_P (dC, dI) zz_cl (wr ++ []) H1 → va_D A0 (wr ++ []) → va_S A0 H0 H1 locs1 → W p l e R s m args below meth c H1 locs1 (cells + 0) (slots + 0) Q (F0 m (pc + 3) ls (.int r :: rest))) : W p l e R s m args below meth c H locs cells slots Q (F0 m pc ls (.long a_2 :: .long a_1 :: .long a_0 :: rest)) := by
  have hPc := hP.sub (ws' := []) isC h1
  have hDc := hD.sub (ws' := []) isC h3 h2
  have hKc := hK.sub (tys' := []) kt h7
  have hFc := va_free (wc := []) hD hS hA isC h2
  refine va_calli (va_runS (As := [.long a_0, .long a_1, .long a_2]) (rest := rest) S (c_MD_in l dC dI H.size a_0 a_1 a_2 post hw) cw ⟨zz_blind, fun U hU hW => ⟨rfl, by rw [hU], by rw [hU]; exact hPc, va_K.moved hW.alike hKc, hDc.weaken (fun _ _ _ _ => trivial)⟩⟩ rfl rfl hsize rfl (lv_room hrest) hdg hf) hS (fun q _ h => hFc q h) hFc (fun r u t H1 locs ht hvm hw hB hz1 hk1 hS => ?_)
  obtain ⟨hP1, hK1, hD1⟩ := hB
  rw [ht] at hP1
  obtain ⟨hP2, hD2⟩ := va_join (wr := wr) (w1 := []) hP hD isC isR h2 h4 h5 h6 hk1 hFc hP1 hD1
  exact kk r H1 locs hw hP2 hD2 hS
abbrev rm_MD_element : Room := { frames := 0, cells := 0, slots := 0, locals := 0 }
abbrev qz_MD_element (dC : Nat → ClassId) (dI : Nat → Nat → Nat) (q_this q_numbers q_stair q_begins q_row q_matrix q_told q_across q_power q_left q_minors : Nat) (k_numbers : ClassId) (x_many : Int32) (post : Int32 → Int32 → Int32 → Int32 → (Nat → Int32) → Prop) (A : Nat → Prop) : Array Value → State → Outcome → State → Prop := va_Qi (fun (r : Int32) (u : Int32 × Int32 × Int32 × (Nat → Int32)) => post r u.1 u.2.1 u.2.2.1 u.2.2.2) (fun (u : Int32 × Int32 × Int32 × (Nat → Int32)) (t : State) => va_P (dC, dI) zz_cl [(q_this, .inr (4, [.int u.1, .int u.2.1, .ref q_numbers, .ref q_stair, .ref q_begins, .ref q_row, .ref q_matrix, .int x_many, .ref q_told, .ref q_across, .int u.2.2.1, .ref q_power, .ref q_left, .ref q_minors])), (q_numbers, .inl (k_numbers, 16, .inl u.2.2.2))] t.heap ∧ va_K (dC, dI) zz_cl [(k_numbers, .int)] t ∧ va_D A [(q_this, .inr (4, [.int u.1, .int u.2.1, .ref q_numbers, .ref q_stair, .ref q_begins, .ref q_row, .ref q_matrix, .int x_many, .ref q_told, .ref q_across, .int u.2.2.1, .ref q_power, .ref q_left, .ref q_minors])), (q_numbers, .inl (k_numbers, 16, .inl u.2.2.2))]) A
def cx_MD_element (p : Program) (s : State) (m : MethodId) (args : Array Value) (meth : Method) (c : Code) : Prop := p.tables.exec = Jvm.exec ∧ c.code = b_MD_element ∧ meth.sig.returnType = (some .int) ∧ c.maxLocals = 2 ∧ s.vm.findClass "StructureRowsModel" = some m.cls ∧ (∀ w ∈ zz_GW, w.before args s = true) ∧ meth.locks = false
def wp_MD_element_28b (x_code : Int32) (x_elements : Int32) (x_many : Int32) (x_known : Int32) (post : Int32 → Int32 → Int32 → Int32 → (Nat → Int32) → Prop)  (P : (Nat → Int32) → Int32 → Prop) (x_numbers : Nat → Int32) (u_1 : Int32) : Prop := (4 ≤ u_1 → (∀ v_4 : Int32, v_4 = x_elements + 1 → (post (v_4 - 1) x_code v_4 0 x_numbers))) ∧ (¬ 4 ≤ u_1 → (vp_in ((4 * x_elements) + u_1) 16 ∧ ∀ w_6 : Nat → Int32, w_6 = upd x_numbers ((4 * x_elements) + u_1).toNatClampNeg 0 → (∀ v_7 : Int32, v_7 = u_1 + 1 → (P w_6 v_7))))
def wp_MD_element_28 (x_code : Int32) (x_elements : Int32) (x_many : Int32) (x_known : Int32) (post : Int32 → Int32 → Int32 → Int32 → (Nat → Int32) → Prop)  (x_numbers : Nat → Int32) (u_1 : Int32) : Prop := ∀ P : (Nat → Int32) → Int32 → Prop, (∀ (x_numbers : Nat → Int32) (u_1 : Int32), wp_MD_element_28b x_code x_elements x_many x_known post P x_numbers u_1 → P x_numbers u_1) → P x_numbers u_1
set_option maxHeartbeats 4000000 in
set_option maxRecDepth 100000 in
theorem k_MD_element_28 {p : Program} {l : Launch} {e : Env} {s : State} {m : MethodId} {args : Array Value} {below : List Frame} {meth : Method} {c : Code} {dC : Nat → ClassId} {dI : Nat → Nat → Nat} {A : Nat → Prop} {q_this q_numbers q_stair q_begins q_row q_matrix q_told q_across q_power q_left q_minors : Nat} {k_numbers : ClassId} {x_code : Int32} {x_elements : Int32} {x_many : Int32} {x_known : Int32} {post : Int32 → Int32 → Int32 → Int32 → (Nat → Int32) → Prop}  (C0 : cx_MD_element p s m args meth c) (hA : ∀ q : Nat, s.heap.size ≤ q → A q) (hK : va_K (dC, dI) zz_cl [(k_numbers, .int)] s) {x_numbers : Nat → Int32} {u_1 : Int32} (hw : wp_MD_element_28 x_code x_elements x_many x_known post x_numbers u_1) {H : Heap} {locs : List Loc} {ls : Array Slot} (hP : va_P (dC, dI) zz_cl [(q_this, .inr (4, [.int x_code, .int x_elements, .ref q_numbers, .ref q_stair, .ref q_begins, .ref q_row, .ref q_matrix, .int x_many, .ref q_told, .ref q_across, .int x_known, .ref q_power, .ref q_left, .ref q_minors])), (q_numbers, .inl (k_numbers, 16, .inl x_numbers))] H) (hD : va_D A [(q_this, .inr (4, [.int x_code, .int x_elements, .ref q_numbers, .ref q_stair, .ref q_begins, .ref q_row, .ref q_matrix, .int x_many, .ref q_told, .ref q_across, .int x_known, .ref q_power, .ref q_left, .ref q_minors])), (q_numbers, .inl (k_numbers, 16, .inl x_numbers))]) (hS : va_S A s.heap H locs) (hl : lv_has ls 2 [(0, .ref q_this), (1, .int u_1)]) : W p l e rm_MD_element s m args below meth c H locs 0 0 (MQ below (qz_MD_element dC dI q_this q_numbers q_stair q_begins q_row q_matrix q_told q_across q_power q_left q_minors k_numbers x_many post A) args s 0 0 A) (F0 m 28 ls []) := by
  have C1 := C0
  obtain ⟨hx, hb, hr, hml, hown, hts, hlocks⟩ := C1
  refine hw (fun (x_numbers : Nat → Int32) (u_1 : Int32) => ∀ (H : Heap) (locs : List Loc) (ls : Array Slot), va_P (dC, dI) zz_cl [(q_this, .inr (4, [.int x_code, .int x_elements, .ref q_numbers, .ref q_stair, .ref q_begins, .ref q_row, .ref q_matrix, .int x_many, .ref q_told, .ref q_across, .int x_known, .ref q_power, .ref q_left, .ref q_minors])), (q_numbers, .inl (k_numbers, 16, .inl x_numbers))] H → va_D A [(q_this, .inr (4, [.int x_code, .int x_elements, .ref q_numbers, .ref q_stair, .ref q_begins, .ref q_row, .ref q_matrix, .int x_many, .ref q_told, .ref q_across, .int x_known, .ref q_power, .ref q_left, .ref q_minors])), (q_numbers, .inl (k_numbers, 16, .inl x_numbers))] → va_S A s.heap H locs → lv_has ls 2 [(0, .ref q_this), (1, .int u_1)] → W p l e rm_MD_element s m args below meth c H locs 0 0 (MQ below (qz_MD_element dC dI q_this q_numbers q_stair q_begins q_row q_matrix q_told q_across q_power q_left q_minors k_numbers x_many post A) args s 0 0 A) (F0 m 28 ls [])) ?_ H locs ls hP hD hS hl
  clear hw hP hD hS hl H locs ls
  intro x_numbers u_1 hw H locs ls hP hD hS hl
  unfold wp_MD_element_28b at hw
  refine lv_iload_n hx hb d_MD_element_28 rfl (lv_at hl 1 rfl) ?_
  refine lv_iconst (v := 4) hx hb d_MD_element_29 (by decide) ?_
  refine lv_icmp_ge (tgt := 53) hx hb d_MD_element_30 (by decide) (fun h_3 => ?_) (fun h_3 => ?_)
  · replace hw := hw.1 h_3
    refine lv_aload_n hx hb d_MD_element_53 rfl (lv_at hl 0 rfl) ?_
    refine lv_iconst (v := 0) hx hb d_MD_element_54 (by decide) ?_
    refine va_put (D := (dC, dI)) (ci := 4) (v := .int 0) (ty := .boolean) (C := "StructureRowsModel") (T := T_MD) (N := 14) hx hb hts in_MD ty_MD tyok_MD nm_MD hown hK hP hD hS 0 rfl rfl 10 (by decide) (hts _ tw_493) (fun _ h9 => h9) rfl (by decide +kernel) rfl rfl (Nat.le_of_ble_eq_true rfl) d_MD_element_55 (fun H locs hP hD hS => ?_)
    replace hP : va_P (dC, dI) zz_cl [(q_this, .inr (4, [.int x_code, .int x_elements, .ref q_numbers, .ref q_stair, .ref q_begins, .ref q_row, .ref q_matrix, .int x_many, .ref q_told, .ref q_across, .int 0, .ref q_power, .ref q_left, .ref q_minors])), (q_numbers, .inl (k_numbers, 16, .inl x_numbers))] H := hP
    replace hD : va_D A [(q_this, .inr (4, [.int x_code, .int x_elements, .ref q_numbers, .ref q_stair, .ref q_begins, .ref q_row, .ref q_matrix, .int x_many, .ref q_told, .ref q_across, .int 0, .ref q_power, .ref q_left, .ref q_minors])), (q_numbers, .inl (k_numbers, 16, .inl x_numbers))] := hD
    refine lv_aload_n hx hb d_MD_element_58 rfl (lv_at hl 0 rfl) ?_
    refine lv_dup hx hb d_MD_element_59 rfl ?_
    refine va_get (D := (dC, dI)) (ci := 4) (v := .int x_elements) (C := "StructureRowsModel") (T := T_MD) (N := 14) hx hb hts in_MD hown hK hP 0 rfl rfl 1 (by decide) (hts _ tw_484) (fun _ h9 => h9) rfl d_MD_element_60 ?_
    refine lv_iconst (v := 1) hx hb d_MD_element_63 (by decide) ?_
    refine lv_iadd hx hb d_MD_element_64 ?_
    refine lv_topi (fun v_4 ev_4 => ?_)
    replace hw := hw v_4 ev_4
    refine va_put (D := (dC, dI)) (ci := 4) (v := .int v_4) (ty := .int) (C := "StructureRowsModel") (T := T_MD) (N := 14) hx hb hts in_MD ty_MD tyok_MD nm_MD hown hK hP hD hS 0 rfl rfl 1 (by decide) (hts _ tw_484) (fun _ h9 => h9) rfl (by decide +kernel) rfl rfl (Nat.le_of_ble_eq_true rfl) d_MD_element_65 (fun H locs hP hD hS => ?_)
    replace hP : va_P (dC, dI) zz_cl [(q_this, .inr (4, [.int x_code, .int v_4, .ref q_numbers, .ref q_stair, .ref q_begins, .ref q_row, .ref q_matrix, .int x_many, .ref q_told, .ref q_across, .int 0, .ref q_power, .ref q_left, .ref q_minors])), (q_numbers, .inl (k_numbers, 16, .inl x_numbers))] H := hP
    replace hD : va_D A [(q_this, .inr (4, [.int x_code, .int v_4, .ref q_numbers, .ref q_stair, .ref q_begins, .ref q_row, .ref q_matrix, .int x_many, .ref q_told, .ref q_across, .int 0, .ref q_power, .ref q_left, .ref q_minors])), (q_numbers, .inl (k_numbers, 16, .inl x_numbers))] := hD
    refine lv_aload_n hx hb d_MD_element_68 rfl (lv_at hl 0 rfl) ?_
    refine va_get (D := (dC, dI)) (ci := 4) (v := .int v_4) (C := "StructureRowsModel") (T := T_MD) (N := 14) hx hb hts in_MD hown hK hP 0 rfl rfl 1 (by decide) (hts _ tw_484) (fun _ h9 => h9) rfl d_MD_element_69 ?_
    refine lv_iconst (v := 1) hx hb d_MD_element_72 (by decide) ?_
    refine lv_isub hx hb d_MD_element_73 ?_
    exact W.iret (v := v_4 - 1) hx hb hr (fun t ht hW => ⟨⟨v_4 - 1, (x_code, v_4, 0, x_numbers), rfl, hw, by rw [ht]; exact hP, va_K.moved hW.alike hK, hD⟩, hS.F ht⟩) hS.2.2 d_MD_element_74
  · replace hw := hw.2 h_3
    refine lv_aload_n hx hb d_MD_element_33 rfl (lv_at hl 0 rfl) ?_
    refine va_get (D := (dC, dI)) (ci := 4) (v := .ref q_numbers) (C := "StructureRowsModel") (T := T_MD) (N := 14) hx hb hts in_MD hown hK hP 0 rfl rfl 2 (by decide) (hts _ tw_485) (fun _ h9 => h9) rfl d_MD_element_34 ?_
    refine lv_iconst (v := 4) hx hb d_MD_element_37 (by decide) ?_
    refine lv_aload_n hx hb d_MD_element_38 rfl (lv_at hl 0 rfl) ?_
    refine va_get (D := (dC, dI)) (ci := 4) (v := .int x_elements) (C := "StructureRowsModel") (T := T_MD) (N := 14) hx hb hts in_MD hown hK hP 0 rfl rfl 1 (by decide) (hts _ tw_484) (fun _ h9 => h9) rfl d_MD_element_39 ?_
    refine lv_imul hx hb d_MD_element_42 ?_
    refine lv_iload_n hx hb d_MD_element_43 rfl (lv_at hl 1 rfl) ?_
    refine lv_iadd hx hb d_MD_element_44 ?_
    refine lv_iconst (v := 0) hx hb d_MD_element_45 (by decide) ?_
    obtain ⟨h_5, hw⟩ := hw
    obtain ⟨w_6, ew_6⟩ : ∃ y : Nat → Int32, y = upd x_numbers ((4 * x_elements) + u_1).toNatClampNeg 0 := ⟨_, rfl⟩
    replace hw := hw w_6 ew_6
    refine va_iast hx hb hK hP hD hS 1 0 rfl rfl h_5 d_MD_element_46 (fun H locs hP hD hS => ?_)
    rw [← ew_6] at hP hD
    replace hP : va_P (dC, dI) zz_cl [(q_this, .inr (4, [.int x_code, .int x_elements, .ref q_numbers, .ref q_stair, .ref q_begins, .ref q_row, .ref q_matrix, .int x_many, .ref q_told, .ref q_across, .int x_known, .ref q_power, .ref q_left, .ref q_minors])), (q_numbers, .inl (k_numbers, 16, .inl w_6))] H := hP
    replace hD : va_D A [(q_this, .inr (4, [.int x_code, .int x_elements, .ref q_numbers, .ref q_stair, .ref q_begins, .ref q_row, .ref q_matrix, .int x_many, .ref q_told, .ref q_across, .int x_known, .ref q_power, .ref q_left, .ref q_minors])), (q_numbers, .inl (k_numbers, 16, .inl w_6))] := hD
    obtain ⟨v_7, ev_7⟩ : ∃ y : Int32, y = u_1 + 1 := ⟨_, rfl⟩
    replace hw := hw v_7 ev_7
    refine lv_iinc (v := v_7) (lv' := [(1, .int v_7), (0, .ref q_this)]) hx hb d_MD_element_47 hl (k := 1) rfl (by rw [ev_7]; rfl) (by decide) rfl (fun ls hl => ?_)
    refine lv_goto (tgt := 28) hx hb d_MD_element_50 (by decide) ?_
    exact hw H locs ls hP hD hS (lv_sub hl [1, 0] rfl)
def wp_MD_element_14 (x_many : Int32) (post : Int32 → Int32 → Int32 → Int32 → (Nat → Int32) → Prop)  (x_code : Int32) (x_elements : Int32) (x_known : Int32) (x_numbers : Nat → Int32) (t_0 : Int32) : Prop := (t_0 ≤ 0 → (wp_MD_element_28 t_0 x_elements x_many x_known post x_numbers 0)) ∧ (¬ t_0 ≤ 0 → (post 0 t_0 x_elements x_known x_numbers))
set_option maxHeartbeats 4000000 in
set_option maxRecDepth 100000 in
theorem k_MD_element_14 {p : Program} {l : Launch} {e : Env} {s : State} {m : MethodId} {args : Array Value} {below : List Frame} {meth : Method} {c : Code} {dC : Nat → ClassId} {dI : Nat → Nat → Nat} {A : Nat → Prop} {q_this q_numbers q_stair q_begins q_row q_matrix q_told q_across q_power q_left q_minors : Nat} {k_numbers : ClassId} {x_many : Int32} {post : Int32 → Int32 → Int32 → Int32 → (Nat → Int32) → Prop}  (C0 : cx_MD_element p s m args meth c) (hA : ∀ q : Nat, s.heap.size ≤ q → A q) (hK : va_K (dC, dI) zz_cl [(k_numbers, .int)] s) {x_code : Int32} {x_elements : Int32} {x_known : Int32} {x_numbers : Nat → Int32} {t_0 : Int32} (hw : wp_MD_element_14 x_many post x_code x_elements x_known x_numbers t_0) {H : Heap} {locs : List Loc} {ls : Array Slot} (hP : va_P (dC, dI) zz_cl [(q_this, .inr (4, [.int x_code, .int x_elements, .ref q_numbers, .ref q_stair, .ref q_begins, .ref q_row, .ref q_matrix, .int x_many, .ref q_told, .ref q_across, .int x_known, .ref q_power, .ref q_left, .ref q_minors])), (q_numbers, .inl (k_numbers, 16, .inl x_numbers))] H) (hD : va_D A [(q_this, .inr (4, [.int x_code, .int x_elements, .ref q_numbers, .ref q_stair, .ref q_begins, .ref q_row, .ref q_matrix, .int x_many, .ref q_told, .ref q_across, .int x_known, .ref q_power, .ref q_left, .ref q_minors])), (q_numbers, .inl (k_numbers, 16, .inl x_numbers))]) (hS : va_S A s.heap H locs) (hl : lv_has ls 2 [(0, .ref q_this)]) : W p l e rm_MD_element s m args below meth c H locs 0 0 (MQ below (qz_MD_element dC dI q_this q_numbers q_stair q_begins q_row q_matrix q_told q_across q_power q_left q_minors k_numbers x_many post A) args s 0 0 A) (F0 m 14 ls [.int t_0, .ref q_this]) := by
  have C1 := C0
  obtain ⟨hx, hb, hr, hml, hown, hts, hlocks⟩ := C1
  unfold wp_MD_element_14 at hw
  refine va_put (D := (dC, dI)) (ci := 4) (v := .int t_0) (ty := .int) (C := "StructureRowsModel") (T := T_MD) (N := 14) hx hb hts in_MD ty_MD tyok_MD nm_MD hown hK hP hD hS 0 rfl rfl 0 (by decide) (hts _ tw_483) (fun _ h9 => h9) rfl (by decide +kernel) rfl rfl (Nat.le_of_ble_eq_true rfl) d_MD_element_14 (fun H locs hP hD hS => ?_)
  replace hP : va_P (dC, dI) zz_cl [(q_this, .inr (4, [.int t_0, .int x_elements, .ref q_numbers, .ref q_stair, .ref q_begins, .ref q_row, .ref q_matrix, .int x_many, .ref q_told, .ref q_across, .int x_known, .ref q_power, .ref q_left, .ref q_minors])), (q_numbers, .inl (k_numbers, 16, .inl x_numbers))] H := hP
  replace hD : va_D A [(q_this, .inr (4, [.int t_0, .int x_elements, .ref q_numbers, .ref q_stair, .ref q_begins, .ref q_row, .ref q_matrix, .int x_many, .ref q_told, .ref q_across, .int x_known, .ref q_power, .ref q_left, .ref q_minors])), (q_numbers, .inl (k_numbers, 16, .inl x_numbers))] := hD
  refine lv_aload_n hx hb d_MD_element_17 rfl (lv_at hl 0 rfl) ?_
  refine va_get (D := (dC, dI)) (ci := 4) (v := .int t_0) (C := "StructureRowsModel") (T := T_MD) (N := 14) hx hb hts in_MD hown hK hP 0 rfl rfl 0 (by decide) (hts _ tw_483) (fun _ h9 => h9) rfl d_MD_element_18 ?_
  refine lv_if_le (tgt := 26) hx hb d_MD_element_21 (by decide) (fun h_2 => ?_) (fun h_2 => ?_)
  · replace hw := hw.1 h_2
    refine lv_iconst (v := 0) hx hb d_MD_element_26 (by decide) ?_
    refine lv_istore_n (lv' := [(1, .int 0), (0, .ref q_this)]) hx hb d_MD_element_27 rfl hl (by decide) rfl (fun ls hl => ?_)
    exact k_MD_element_28 C0 hA hK hw hP hD hS (lv_sub hl [1, 0] rfl)
  · replace hw := hw.2 h_2
    refine lv_iconst (v := 0) hx hb d_MD_element_24 (by decide) ?_
    exact W.iret (v := 0) hx hb hr (fun t ht hW => ⟨⟨0, (t_0, x_elements, x_known, x_numbers), rfl, hw, by rw [ht]; exact hP, va_K.moved hW.alike hK, hD⟩, hS.F ht⟩) hS.2.2 d_MD_element_25
def wp_MD_element (x_code : Int32) (x_elements : Int32) (x_many : Int32) (x_known : Int32) (x_numbers : Nat → Int32)  (post : Int32 → Int32 → Int32 → Int32 → (Nat → Int32) → Prop) : Prop := (¬ x_elements = 4 → (wp_MD_element_14 x_many post x_code x_elements x_known x_numbers 0)) ∧ (x_elements = 4 → (wp_MD_element_14 x_many post x_code x_elements x_known x_numbers 1))
set_option maxHeartbeats 4000000 in
set_option maxRecDepth 100000 in
theorem c_MD_element (l : Launch) (dC : Nat → ClassId) (dI : Nat → Nat → Nat) (q_this q_numbers q_stair q_begins q_row q_matrix q_told q_across q_power q_left q_minors : Nat) (k_numbers : ClassId) (sz : Nat) (x_code : Int32) (x_elements : Int32) (x_many : Int32) (x_known : Int32) (x_numbers : Nat → Int32)  (post : Int32 → Int32 → Int32 → Int32 → (Nat → Int32) → Prop) (hw : wp_MD_element x_code x_elements x_many x_known x_numbers post) : Met l y_MD_element (zz_w y_MD_element b_MD_element 2 (some .int)) rm_MD_element (va_Pc [.ref q_this] (fun U => U.heap.size = sz ∧ va_P (dC, dI) zz_cl [(q_this, .inr (4, [.int x_code, .int x_elements, .ref q_numbers, .ref q_stair, .ref q_begins, .ref q_row, .ref q_matrix, .int x_many, .ref q_told, .ref q_across, .int x_known, .ref q_power, .ref q_left, .ref q_minors])), (q_numbers, .inl (k_numbers, 16, .inl x_numbers))] U.heap ∧ va_K (dC, dI) zz_cl [(k_numbers, .int)] U ∧ va_D (fun _ => True) [(q_this, .inr (4, [.int x_code, .int x_elements, .ref q_numbers, .ref q_stair, .ref q_begins, .ref q_row, .ref q_matrix, .int x_many, .ref q_told, .ref q_across, .int x_known, .ref q_power, .ref q_left, .ref q_minors])), (q_numbers, .inl (k_numbers, 16, .inl x_numbers))])) (qz_MD_element dC dI q_this q_numbers q_stair q_begins q_row q_matrix q_told q_across q_power q_left q_minors k_numbers x_many post (va_A [(q_this, .inr (4, [.int x_code, .int x_elements, .ref q_numbers, .ref q_stair, .ref q_begins, .ref q_row, .ref q_matrix, .int x_many, .ref q_told, .ref q_across, .int x_known, .ref q_power, .ref q_left, .ref q_minors])), (q_numbers, .inl (k_numbers, 16, .inl x_numbers))] sz)) 0 0 (va_A [(q_this, .inr (4, [.int x_code, .int x_elements, .ref q_numbers, .ref q_stair, .ref q_begins, .ref q_row, .ref q_matrix, .int x_many, .ref q_told, .ref q_across, .int x_known, .ref q_power, .ref q_left, .ref q_minors])), (q_numbers, .inl (k_numbers, 16, .inl x_numbers))] sz) := by
  refine Met.ofW (cc := b_MD_element) (maxL := 2) (ret := (some .int)) (by decide) rfl ?_
  intro p e s m args below meth c s₁ B hml hv
  obtain ⟨rfl, hsz, hP, hK, hD0⟩ := hv
  have hx := B.exec
  have hb := B.bytes
  have hr := B.returns
  have hts0 := atoms_spec (ws := (zz_w y_MD_element b_MD_element 2 (some .int))) B.pre
  have hts : ∀ w ∈ zz_GW, w.before _ s = true := fun w h => hts0 w (List.mem_cons_of_mem _ h)
  clear hts0
  have hown : s.vm.findClass "StructureRowsModel" = some m.cls := findClass_of_methodNamed B.named
  have hlocks := B.notSynchronized
  have C0 : cx_MD_element p s m _ meth c := ⟨hx, hb, hr, hml, hown, hts, hlocks⟩
  subst hsz
  have hD := hD0.self (sz := s.heap.size)
  generalize hAe : va_A [(q_this, .inr (4, [.int x_code, .int x_elements, .ref q_numbers, .ref q_stair, .ref q_begins, .ref q_row, .ref q_matrix, .int x_many, .ref q_told, .ref q_across, .int x_known, .ref q_power, .ref q_left, .ref q_minors])), (q_numbers, .inl (k_numbers, 16, .inl x_numbers))] s.heap.size = A at hD ⊢
  have hA : ∀ q : Nat, s.heap.size ≤ q → A q := fun q h => by rw [← hAe]; exact Or.inr h
  clear hAe hD0
  have hS : va_S A s.heap s.heap [] := va_S.rf
  have hl := lv_entry ([.ref q_this]) (n := 2) (Nat.le_of_ble_eq_true rfl)
  rw [lg_entry_eq]
  generalize (lg_sl ([.ref q_this]) ++ List.replicate (2 - (lg_sl ([.ref q_this])).length) Slot.unset).toArray = ls at hl ⊢
  replace hl : lv_has ls 2 [(0, .ref q_this)] := hl
  unfold wp_MD_element at hw
  change W p l e rm_MD_element s m _ below meth c s.heap [] 0 0 _ _
  refine lv_aload_n hx hb d_MD_element_0 rfl (lv_at hl 0 rfl) ?_
  refine lv_aload_n hx hb d_MD_element_1 rfl (lv_at hl 0 rfl) ?_
  refine va_get (D := (dC, dI)) (ci := 4) (v := .int x_elements) (C := "StructureRowsModel") (T := T_MD) (N := 14) hx hb hts in_MD hown hK hP 0 rfl rfl 1 (by decide) (hts _ tw_484) (fun _ h9 => h9) rfl d_MD_element_2 ?_
  refine lv_iconst (v := 4) hx hb d_MD_element_5 (by decide) ?_
  refine lv_icmp_ne (tgt := 13) hx hb d_MD_element_6 (by decide) (fun h_1 => ?_) (fun h_1 => ?_)
  · replace hw := hw.1 h_1
    refine lv_iconst (v := 0) hx hb d_MD_element_13 (by decide) ?_
    exact k_MD_element_14 C0 hA hK hw hP hD hS hl
  · replace hw := hw.2 h_1
    refine lv_iconst (v := 1) hx hb d_MD_element_9 (by decide) ?_
    refine lv_goto (tgt := 14) hx hb d_MD_element_10 (by decide) ?_
    exact k_MD_element_14 C0 hA hK hw hP hD hS hl
set_option maxHeartbeats 4000000 in
set_option maxRecDepth 100000 in
theorem go_MD_element {p : Program} {l : Launch} {e : Env} {R : Room} {s : State} {m : MethodId} {args : Array Value} {below : List Frame} {meth : Method} {c : Code} {H : Heap} {locs : List Loc} {cells slots : Nat} {Q : State → Prop} {cc : ByteArray} {nL : Nat} {Ts : List Cond} {own : String} {index : Nat} {A0 : Nat → Prop} {H0 : Heap} {dC : Nat → ClassId} {dI : Nat → Nat → Nat} {ws wr : va_W} {tys : List (ClassId × FieldType)} {q_this q_numbers q_stair q_begins q_row q_matrix q_told q_across q_power q_left q_minors : Nat} {k_numbers : ClassId} {x_code : Int32} {x_elements : Int32} {x_many : Int32} {x_known : Int32} {x_numbers : Nat → Int32}  {post : Int32 → Int32 → Int32 → Int32 → (Nat → Int32) → Prop} (S : CallFix p m c cc nL s args Ts own) (cw : CallW R s args own "StructureRowsModel" index y_MD_element b_MD_element 2 (some .int) (zz_w y_MD_element b_MD_element 2 (some .int)) rm_MD_element 0 0 0) (hK : va_K (dC, dI) zz_cl tys s) (hP : va_P (dC, dI) zz_cl ws H) (hD : va_D A0 ws) (hS : va_S A0 H0 H locs) (hA : ∀ q, H0.size ≤ q → A0 q) (isC isR kt : List Nat) (h1 : isC.filterMap (fun i => ws[i]?) = [(q_this, .inr (4, [.int x_code, .int x_elements, .ref q_numbers, .ref q_stair, .ref q_begins, .ref q_row, .ref q_matrix, .int x_many, .ref q_told, .ref q_across, .int x_known, .ref q_power, .ref q_left, .ref q_minors])), (q_numbers, .inl (k_numbers, 16, .inl x_numbers))]) (h2 : isC.map (fun i => ws[i]?) = ([(q_this, .inr (4, [.int x_code, .int x_elements, .ref q_numbers, .ref q_stair, .ref q_begins, .ref q_row, .ref q_matrix, .int x_many, .ref q_told, .ref q_across, .int x_known, .ref q_power, .ref q_left, .ref q_minors])), (q_numbers, .inl (k_numbers, 16, .inl x_numbers))] : va_W).map some) (h3 : va_nd isC = true) (h4 : isR.map (fun i => ws[i]?) = wr.map some) (h5 : va_nd isR = true) (h6 : ∀ i ∈ isR, i ∉ isC) (h7 : kt.filterMap (fun i => tys[i]?) = [(k_numbers, .int)]) (hw : wp_MD_element x_code x_elements x_many x_known x_numbers post) {pc : Nat} {ls : Array Slot} {rest : List Value} (hsize : ls.size = nL) (hrest : (rest.map fun v => v.category).sum ≤ 8) (hdg : decode cc pc = .ok (.invokevirtual index, 3)) (hf : cells + 0 ≤ R.cells ∧ slots + 0 ≤ R.slots) (kk : ∀ (r : Int32) (m0 : Int32) (m1 : Int32) (m2 : Int32) (m3 : Nat → Int32) (H1 : Heap) (locs1 : List Loc), post r m0 m1 m2 m3 → va_P (dC, dI) zz_cl (wr ++ [(q_this, .inr (4, [.int m0, .int m1, .ref q_numbers, .ref q_stair, .ref q_begins, .ref q_row, .ref q_matrix, .int x_many, .ref q_told, .ref q_across, .int m2, .ref q_power, .ref q_left, .ref q_minors])), (q_numbers, .inl (k_numbers, 16, .inl m3))]) H1 → va_D A0 (wr ++ [(q_this, .inr (4, [.int m0, .int m1, .ref q_numbers, .ref q_stair, .ref q_begins, .ref q_row, .ref q_matrix, .int x_many, .ref q_told, .ref q_across, .int m2, .ref q_power, .ref q_left, .ref q_minors])), (q_numbers, .inl (k_numbers, 16, .inl m3))]) → va_S A0 H0 H1 locs1 → W p l e R s m args below meth c H1 locs1 (cells + 0) (slots + 0) Q (F0 m (pc + 3) ls (.int r :: rest))) : W p l e R s m args below meth c H locs cells slots Q (F0 m pc ls (.ref q_this :: rest)) := by
  have hPc := hP.sub (ws' := [(q_this, .inr (4, [.int x_code, .int x_elements, .ref q_numbers, .ref q_stair, .ref q_begins, .ref q_row, .ref q_matrix, .int x_many, .ref q_told, .ref q_across, .int x_known, .ref q_power, .ref q_left, .ref q_minors])), (q_numbers, .inl (k_numbers, 16, .inl x_numbers))]) isC h1
  have hDc := hD.sub (ws' := [(q_this, .inr (4, [.int x_code, .int x_elements, .ref q_numbers, .ref q_stair, .ref q_begins, .ref q_row, .ref q_matrix, .int x_many, .ref q_told, .ref q_across, .int x_known, .ref q_power, .ref q_left, .ref q_minors])), (q_numbers, .inl (k_numbers, 16, .inl x_numbers))]) isC h3 h2
  have hKc := hK.sub (tys' := [(k_numbers, .int)]) kt h7
  have hFc := va_free (wc := [(q_this, .inr (4, [.int x_code, .int x_elements, .ref q_numbers, .ref q_stair, .ref q_begins, .ref q_row, .ref q_matrix, .int x_many, .ref q_told, .ref q_across, .int x_known, .ref q_power, .ref q_left, .ref q_minors])), (q_numbers, .inl (k_numbers, 16, .inl x_numbers))]) hD hS hA isC h2
  refine va_calli (va_runV (As := []) (rest := rest) S (c_MD_element l dC dI q_this q_numbers q_stair q_begins q_row q_matrix q_told q_across q_power q_left q_minors k_numbers H.size x_code x_elements x_many x_known x_numbers post hw) cw ⟨zz_blind, va_recv hKc hPc (ci := 4) (q0 := 0) rfl rfl, fun U hU hW => ⟨rfl, by rw [hU], by rw [hU]; exact hPc, va_K.moved hW.alike hKc, hDc.weaken (fun _ _ _ _ => trivial)⟩⟩ rfl rfl hsize rfl (lv_room hrest) hdg hf) hS (fun q _ h => hFc q h) hFc (fun r u t H1 locs ht hvm hw hB hz1 hk1 hS => ?_)
  obtain ⟨hP1, hK1, hD1⟩ := hB
  rw [ht] at hP1
  obtain ⟨hP2, hD2⟩ := va_join (wr := wr) (w1 := [(q_this, .inr (4, [.int u.1, .int u.2.1, .ref q_numbers, .ref q_stair, .ref q_begins, .ref q_row, .ref q_matrix, .int x_many, .ref q_told, .ref q_across, .int u.2.2.1, .ref q_power, .ref q_left, .ref q_minors])), (q_numbers, .inl (k_numbers, 16, .inl u.2.2.2))]) hP hD isC isR h2 h4 h5 h6 hk1 hFc hP1 hD1
  exact kk r u.1 u.2.1 u.2.2.1 u.2.2.2 H1 locs hw hP2 hD2 hS
abbrev rm_MD_isElement : Room := { frames := 1, cells := 0, slots := 0, locals := 25 }
abbrev qz_MD_isElement (dC : Nat → ClassId) (dI : Nat → Nat → Nat) (q_this q_numbers q_stair q_begins q_row q_matrix q_told q_across q_power q_left q_minors : Nat) (x_code : Int32) (x_elements : Int32) (x_many : Int32) (x_known : Int32) (post : Int32 → Prop) (A : Nat → Prop) : Array Value → State → Outcome → State → Prop := va_Qi (fun (r : Int32) (_ : Unit) => post r) (fun (u : Unit) (t : State) => va_P (dC, dI) zz_cl [(q_this, .inr (4, [.int x_code, .int x_elements, .ref q_numbers, .ref q_stair, .ref q_begins, .ref q_row, .ref q_matrix, .int x_many, .ref q_told, .ref q_across, .int x_known, .ref q_power, .ref q_left, .ref q_minors]))] t.heap ∧ va_K (dC, dI) zz_cl [] t ∧ va_D A [(q_this, .inr (4, [.int x_code, .int x_elements, .ref q_numbers, .ref q_stair, .ref q_begins, .ref q_row, .ref q_matrix, .int x_many, .ref q_told, .ref q_across, .int x_known, .ref q_power, .ref q_left, .ref q_minors]))]) A
def cx_MD_isElement (p : Program) (s : State) (m : MethodId) (args : Array Value) (meth : Method) (c : Code) : Prop := p.tables.exec = Jvm.exec ∧ c.code = b_MD_isElement ∧ meth.sig.returnType = (some .boolean) ∧ c.maxLocals = 2 ∧ s.vm.findClass "StructureRowsModel" = some m.cls ∧ (∀ w ∈ zz_GW, w.before args s = true) ∧ meth.locks = false
def wp_MD_isElement (x_code : Int32) (x_elements : Int32) (x_many : Int32) (x_known : Int32) (a_0 : Int32) (post : Int32 → Prop) : Prop := wp_MD_in a_0.toInt64 0 ((x_elements - 1).toInt64) (fun (r_1 : Int32) => (narrow .boolean (.int r_1) = .int r_1 ∧ (post r_1)))
set_option maxHeartbeats 4000000 in
set_option maxRecDepth 100000 in
theorem c_MD_isElement (l : Launch) (dC : Nat → ClassId) (dI : Nat → Nat → Nat) (q_this q_numbers q_stair q_begins q_row q_matrix q_told q_across q_power q_left q_minors : Nat) (sz : Nat) (x_code : Int32) (x_elements : Int32) (x_many : Int32) (x_known : Int32) (a_0 : Int32) (post : Int32 → Prop) (hw : wp_MD_isElement x_code x_elements x_many x_known a_0 post) : Met l y_MD_isElement (zz_w y_MD_isElement b_MD_isElement 2 (some .boolean)) rm_MD_isElement (va_Pc [.ref q_this, .int a_0] (fun U => U.heap.size = sz ∧ va_P (dC, dI) zz_cl [(q_this, .inr (4, [.int x_code, .int x_elements, .ref q_numbers, .ref q_stair, .ref q_begins, .ref q_row, .ref q_matrix, .int x_many, .ref q_told, .ref q_across, .int x_known, .ref q_power, .ref q_left, .ref q_minors]))] U.heap ∧ va_K (dC, dI) zz_cl [] U ∧ va_D (fun _ => True) [(q_this, .inr (4, [.int x_code, .int x_elements, .ref q_numbers, .ref q_stair, .ref q_begins, .ref q_row, .ref q_matrix, .int x_many, .ref q_told, .ref q_across, .int x_known, .ref q_power, .ref q_left, .ref q_minors]))])) (qz_MD_isElement dC dI q_this q_numbers q_stair q_begins q_row q_matrix q_told q_across q_power q_left q_minors x_code x_elements x_many x_known post (va_A [(q_this, .inr (4, [.int x_code, .int x_elements, .ref q_numbers, .ref q_stair, .ref q_begins, .ref q_row, .ref q_matrix, .int x_many, .ref q_told, .ref q_across, .int x_known, .ref q_power, .ref q_left, .ref q_minors]))] sz)) 0 0 (va_A [(q_this, .inr (4, [.int x_code, .int x_elements, .ref q_numbers, .ref q_stair, .ref q_begins, .ref q_row, .ref q_matrix, .int x_many, .ref q_told, .ref q_across, .int x_known, .ref q_power, .ref q_left, .ref q_minors]))] sz) := by
  refine Met.ofW (cc := b_MD_isElement) (maxL := 2) (ret := (some .boolean)) (by decide) rfl ?_
  intro p e s m args below meth c s₁ B hml hv
  obtain ⟨rfl, hsz, hP, hK, hD0⟩ := hv
  have hx := B.exec
  have hb := B.bytes
  have hr := B.returns
  have hts0 := atoms_spec (ws := (zz_w y_MD_isElement b_MD_isElement 2 (some .boolean))) B.pre
  have hts : ∀ w ∈ zz_GW, w.before _ s = true := fun w h => hts0 w (List.mem_cons_of_mem _ h)
  clear hts0
  have hown : s.vm.findClass "StructureRowsModel" = some m.cls := findClass_of_methodNamed B.named
  have hlocks := B.notSynchronized
  have C0 : cx_MD_isElement p s m _ meth c := ⟨hx, hb, hr, hml, hown, hts, hlocks⟩
  subst hsz
  have hD := hD0.self (sz := s.heap.size)
  generalize hAe : va_A [(q_this, .inr (4, [.int x_code, .int x_elements, .ref q_numbers, .ref q_stair, .ref q_begins, .ref q_row, .ref q_matrix, .int x_many, .ref q_told, .ref q_across, .int x_known, .ref q_power, .ref q_left, .ref q_minors]))] s.heap.size = A at hD ⊢
  have hA : ∀ q : Nat, s.heap.size ≤ q → A q := fun q h => by rw [← hAe]; exact Or.inr h
  clear hAe hD0
  have hS : va_S A s.heap s.heap [] := va_S.rf
  have hl := lv_entry ([.ref q_this, .int a_0]) (n := 2) (Nat.le_of_ble_eq_true rfl)
  rw [lg_entry_eq]
  generalize (lg_sl ([.ref q_this, .int a_0]) ++ List.replicate (2 - (lg_sl ([.ref q_this, .int a_0])).length) Slot.unset).toArray = ls at hl ⊢
  replace hl : lv_has ls 2 [(0, .ref q_this), (1, .int a_0)] := hl
  unfold wp_MD_isElement at hw
  change W p l e rm_MD_isElement s m _ below meth c s.heap [] 0 0 _ _
  refine lv_iload_n hx hb d_MD_isElement_0 rfl (lv_at hl 1 rfl) ?_
  refine lv_i2l (v := a_0.toInt64) hx hb d_MD_isElement_1 rfl ?_
  refine lv_lconst (v := 0) hx hb d_MD_isElement_2 (by decide) ?_
  refine lv_aload_n hx hb d_MD_isElement_3 rfl (lv_at hl 0 rfl) ?_
  refine va_get (D := (dC, dI)) (ci := 4) (v := .int x_elements) (C := "StructureRowsModel") (T := T_MD) (N := 14) hx hb hts in_MD hown hK hP 0 rfl rfl 1 (by decide) (hts _ tw_484) (fun _ h9 => h9) rfl d_MD_isElement_4 ?_
  refine lv_iconst (v := 1) hx hb d_MD_isElement_7 (by decide) ?_
  refine lv_isub hx hb d_MD_isElement_8 ?_
  refine lv_i2l (v := (x_elements - 1).toInt64) hx hb d_MD_isElement_9 rfl ?_
  refine go_MD_in (wr := [(q_this, .inr (4, [.int x_code, .int x_elements, .ref q_numbers, .ref q_stair, .ref q_begins, .ref q_row, .ref q_matrix, .int x_many, .ref q_told, .ref q_across, .int x_known, .ref q_power, .ref q_left, .ref q_minors]))]) ⟨hx, hb, hml, hown, hts⟩ (zz_cwS 3 hts tw_545 tw_543 tw_544 tw_35 ⟨by decide, by decide, by decide +kernel⟩ ⟨Nat.le_of_ble_eq_true rfl, Nat.le_of_ble_eq_true rfl⟩) hK hP hD hS hA [] [0] [] rfl rfl (by decide) rfl (by decide) (by decide) rfl hw hl.1 (Nat.le_of_ble_eq_true rfl) d_MD_isElement_10 ⟨Nat.le_of_ble_eq_true rfl, Nat.le_of_ble_eq_true rfl⟩ (fun r_1 H locs hw hP hD hS => ?_)
  replace hP : va_P (dC, dI) zz_cl [(q_this, .inr (4, [.int x_code, .int x_elements, .ref q_numbers, .ref q_stair, .ref q_begins, .ref q_row, .ref q_matrix, .int x_many, .ref q_told, .ref q_across, .int x_known, .ref q_power, .ref q_left, .ref q_minors]))] H := hP
  replace hD : va_D A [(q_this, .inr (4, [.int x_code, .int x_elements, .ref q_numbers, .ref q_stair, .ref q_begins, .ref q_row, .ref q_matrix, .int x_many, .ref q_told, .ref q_across, .int x_known, .ref q_power, .ref q_left, .ref q_minors]))] := hD
  obtain ⟨h_2, hw⟩ := hw
  exact W.zret (v := r_1) (ty := .boolean) hx hb hr h_2 (fun t ht hW => ⟨⟨r_1, (), rfl, hw, by rw [ht]; exact hP, va_K.moved hW.alike hK, hD⟩, hS.F ht⟩) hS.2.2 d_MD_isElement_13
set_option maxHeartbeats 4000000 in
set_option maxRecDepth 100000 in
theorem go_MD_isElement {p : Program} {l : Launch} {e : Env} {R : Room} {s : State} {m : MethodId} {args : Array Value} {below : List Frame} {meth : Method} {c : Code} {H : Heap} {locs : List Loc} {cells slots : Nat} {Q : State → Prop} {cc : ByteArray} {nL : Nat} {Ts : List Cond} {own : String} {index : Nat} {A0 : Nat → Prop} {H0 : Heap} {dC : Nat → ClassId} {dI : Nat → Nat → Nat} {ws wr : va_W} {tys : List (ClassId × FieldType)} {q_this q_numbers q_stair q_begins q_row q_matrix q_told q_across q_power q_left q_minors : Nat} {x_code : Int32} {x_elements : Int32} {x_many : Int32} {x_known : Int32} {a_0 : Int32} {post : Int32 → Prop} (S : CallFix p m c cc nL s args Ts own) (cw : CallW R s args own "StructureRowsModel" index y_MD_isElement b_MD_isElement 2 (some .boolean) (zz_w y_MD_isElement b_MD_isElement 2 (some .boolean)) rm_MD_isElement 0 0 1) (hK : va_K (dC, dI) zz_cl tys s) (hP : va_P (dC, dI) zz_cl ws H) (hD : va_D A0 ws) (hS : va_S A0 H0 H locs) (hA : ∀ q, H0.size ≤ q → A0 q) (isC isR kt : List Nat) (h1 : isC.filterMap (fun i => ws[i]?) = [(q_this, .inr (4, [.int x_code, .int x_elements, .ref q_numbers, .ref q_stair, .ref q_begins, .ref q_row, .ref q_matrix, .int x_many, .ref q_told, .ref q_across, .int x_known, .ref q_power, .ref q_left, .ref q_minors]))]) (h2 : isC.map (fun i => ws[i]?) = ([(q_this, .inr (4, [.int x_code, .int x_elements, .ref q_numbers, .ref q_stair, .ref q_begins, .ref q_row, .ref q_matrix, .int x_many, .ref q_told, .ref q_across, .int x_known, .ref q_power, .ref q_left, .ref q_minors]))] : va_W).map some) (h3 : va_nd isC = true) (h4 : isR.map (fun i => ws[i]?) = wr.map some) (h5 : va_nd isR = true) (h6 : ∀ i ∈ isR, i ∉ isC) (h7 : kt.filterMap (fun i => tys[i]?) = []) (hw : wp_MD_isElement x_code x_elements x_many x_known a_0 post) {pc : Nat} {ls : Array Slot} {rest : List Value} (hsize : ls.size = nL) (hrest : (rest.map fun v => v.category).sum ≤ 8) (hdg : decode cc pc = .ok (.invokevirtual index, 3)) (hf : cells + 0 ≤ R.cells ∧ slots + 0 ≤ R.slots) (kk : ∀ (r : Int32) (H1 : Heap) (locs1 : List Loc), post r → va_P (dC, dI) zz_cl (wr ++ [(q_this, .inr (4, [.int x_code, .int x_elements, .ref q_numbers, .ref q_stair, .ref q_begins, .ref q_row, .ref q_matrix, .int x_many, .ref q_told, .ref q_across, .int x_known, .ref q_power, .ref q_left, .ref q_minors]))]) H1 → va_D A0 (wr ++ [(q_this, .inr (4, [.int x_code, .int x_elements, .ref q_numbers, .ref q_stair, .ref q_begins, .ref q_row, .ref q_matrix, .int x_many, .ref q_told, .ref q_across, .int x_known, .ref q_power, .ref q_left, .ref q_minors]))]) → va_S A0 H0 H1 locs1 → W p l e R s m args below meth c H1 locs1 (cells + 0) (slots + 0) Q (F0 m (pc + 3) ls (.int r :: rest))) : W p l e R s m args below meth c H locs cells slots Q (F0 m pc ls (.int a_0 :: .ref q_this :: rest)) := by
  have hPc := hP.sub (ws' := [(q_this, .inr (4, [.int x_code, .int x_elements, .ref q_numbers, .ref q_stair, .ref q_begins, .ref q_row, .ref q_matrix, .int x_many, .ref q_told, .ref q_across, .int x_known, .ref q_power, .ref q_left, .ref q_minors]))]) isC h1
  have hDc := hD.sub (ws' := [(q_this, .inr (4, [.int x_code, .int x_elements, .ref q_numbers, .ref q_stair, .ref q_begins, .ref q_row, .ref q_matrix, .int x_many, .ref q_told, .ref q_across, .int x_known, .ref q_power, .ref q_left, .ref q_minors]))]) isC h3 h2
  have hKc := hK.sub (tys' := []) kt h7
  have hFc := va_free (wc := [(q_this, .inr (4, [.int x_code, .int x_elements, .ref q_numbers, .ref q_stair, .ref q_begins, .ref q_row, .ref q_matrix, .int x_many, .ref q_told, .ref q_across, .int x_known, .ref q_power, .ref q_left, .ref q_minors]))]) hD hS hA isC h2
  refine va_calli (va_runV (As := [.int a_0]) (rest := rest) S (c_MD_isElement l dC dI q_this q_numbers q_stair q_begins q_row q_matrix q_told q_across q_power q_left q_minors H.size x_code x_elements x_many x_known a_0 post hw) cw ⟨zz_blind, va_recv hKc hPc (ci := 4) (q0 := 0) rfl rfl, fun U hU hW => ⟨rfl, by rw [hU], by rw [hU]; exact hPc, va_K.moved hW.alike hKc, hDc.weaken (fun _ _ _ _ => trivial)⟩⟩ rfl rfl hsize rfl (lv_room hrest) hdg hf) hS (fun q _ h => hFc q h) hFc (fun r u t H1 locs ht hvm hw hB hz1 hk1 hS => ?_)
  obtain ⟨hP1, hK1, hD1⟩ := hB
  rw [ht] at hP1
  obtain ⟨hP2, hD2⟩ := va_join (wr := wr) (w1 := [(q_this, .inr (4, [.int x_code, .int x_elements, .ref q_numbers, .ref q_stair, .ref q_begins, .ref q_row, .ref q_matrix, .int x_many, .ref q_told, .ref q_across, .int x_known, .ref q_power, .ref q_left, .ref q_minors]))]) hP hD isC isR h2 h4 h5 h6 hk1 hFc hP1 hD1
  exact kk r H1 locs hw hP2 hD2 hS
abbrev rm_MD_put : Room := { frames := 2, cells := 0, slots := 0, locals := 46 }
abbrev qz_MD_put (dC : Nat → ClassId) (dI : Nat → Nat → Nat) (q_this q_numbers q_stair q_begins q_row q_matrix q_told q_across q_power q_left q_minors : Nat) (k_numbers : ClassId) (x_elements : Int32) (x_many : Int32) (post : Int32 → Int32 → Int32 → (Nat → Int32) → Prop) (A : Nat → Prop) : Array Value → State → Outcome → State → Prop := va_Qi (fun (r : Int32) (u : Int32 × Int32 × (Nat → Int32)) => post r u.1 u.2.1 u.2.2) (fun (u : Int32 × Int32 × (Nat → Int32)) (t : State) => va_P (dC, dI) zz_cl [(q_this, .inr (4, [.int u.1, .int x_elements, .ref q_numbers, .ref q_stair, .ref q_begins, .ref q_row, .ref q_matrix, .int x_many, .ref q_told, .ref q_across, .int u.2.1, .ref q_power, .ref q_left, .ref q_minors])), (q_numbers, .inl (k_numbers, 16, .inl u.2.2))] t.heap ∧ va_K (dC, dI) zz_cl [(k_numbers, .int)] t ∧ va_D A [(q_this, .inr (4, [.int u.1, .int x_elements, .ref q_numbers, .ref q_stair, .ref q_begins, .ref q_row, .ref q_matrix, .int x_many, .ref q_told, .ref q_across, .int u.2.1, .ref q_power, .ref q_left, .ref q_minors])), (q_numbers, .inl (k_numbers, 16, .inl u.2.2))]) A
def cx_MD_put (p : Program) (s : State) (m : MethodId) (args : Array Value) (meth : Method) (c : Code) : Prop := p.tables.exec = Jvm.exec ∧ c.code = b_MD_put ∧ meth.sig.returnType = (some .boolean) ∧ c.maxLocals = 4 ∧ s.vm.findClass "StructureRowsModel" = some m.cls ∧ (∀ w ∈ zz_GW, w.before args s = true) ∧ meth.locks = false
def wp_MD_put_44 (x_elements : Int32) (x_many : Int32) (u_1 : Int32) (u_2 : Int32) (u_3 : Int32) (post : Int32 → Int32 → Int32 → (Nat → Int32) → Prop)  (x_code : Int32) (x_known : Int32) (x_numbers : Nat → Int32) (t_0 : Int32) : Prop := (0 < t_0 → (post 0 t_0 x_known x_numbers)) ∧ (¬ 0 < t_0 → (vp_in ((4 * u_1) + u_2) 16 ∧ ((¬ (x_numbers ((4 * u_1) + u_2).toNatClampNeg) = u_3 → (vp_in ((4 * u_1) + u_2) 16 ∧ ∀ w_7 : Nat → Int32, w_7 = upd x_numbers ((4 * u_1) + u_2).toNatClampNeg u_3 → (post 1 t_0 0 w_7))) ∧ ((x_numbers ((4 * u_1) + u_2).toNatClampNeg) = u_3 → (post 0 t_0 x_known x_numbers)))))
set_option maxHeartbeats 4000000 in
set_option maxRecDepth 100000 in
theorem k_MD_put_44 {p : Program} {l : Launch} {e : Env} {s : State} {m : MethodId} {args : Array Value} {below : List Frame} {meth : Method} {c : Code} {dC : Nat → ClassId} {dI : Nat → Nat → Nat} {A : Nat → Prop} {q_this q_numbers q_stair q_begins q_row q_matrix q_told q_across q_power q_left q_minors : Nat} {k_numbers : ClassId} {x_elements : Int32} {x_many : Int32} {u_1 : Int32} {u_2 : Int32} {u_3 : Int32} {post : Int32 → Int32 → Int32 → (Nat → Int32) → Prop}  (C0 : cx_MD_put p s m args meth c) (hA : ∀ q : Nat, s.heap.size ≤ q → A q) (hK : va_K (dC, dI) zz_cl [(k_numbers, .int)] s) {x_code : Int32} {x_known : Int32} {x_numbers : Nat → Int32} {t_0 : Int32} (hw : wp_MD_put_44 x_elements x_many u_1 u_2 u_3 post x_code x_known x_numbers t_0) {H : Heap} {locs : List Loc} {ls : Array Slot} (hP : va_P (dC, dI) zz_cl [(q_this, .inr (4, [.int x_code, .int x_elements, .ref q_numbers, .ref q_stair, .ref q_begins, .ref q_row, .ref q_matrix, .int x_many, .ref q_told, .ref q_across, .int x_known, .ref q_power, .ref q_left, .ref q_minors])), (q_numbers, .inl (k_numbers, 16, .inl x_numbers))] H) (hD : va_D A [(q_this, .inr (4, [.int x_code, .int x_elements, .ref q_numbers, .ref q_stair, .ref q_begins, .ref q_row, .ref q_matrix, .int x_many, .ref q_told, .ref q_across, .int x_known, .ref q_power, .ref q_left, .ref q_minors])), (q_numbers, .inl (k_numbers, 16, .inl x_numbers))]) (hS : va_S A s.heap H locs) (hl : lv_has ls 4 [(0, .ref q_this), (1, .int u_1), (2, .int u_2), (3, .int u_3)]) : W p l e rm_MD_put s m args below meth c H locs 0 0 (MQ below (qz_MD_put dC dI q_this q_numbers q_stair q_begins q_row q_matrix q_told q_across q_power q_left q_minors k_numbers x_elements x_many post A) args s 0 0 A) (F0 m 44 ls [.int t_0, .ref q_this]) := by
  have C1 := C0
  obtain ⟨hx, hb, hr, hml, hown, hts, hlocks⟩ := C1
  unfold wp_MD_put_44 at hw
  refine va_put (D := (dC, dI)) (ci := 4) (v := .int t_0) (ty := .int) (C := "StructureRowsModel") (T := T_MD) (N := 14) hx hb hts in_MD ty_MD tyok_MD nm_MD hown hK hP hD hS 0 rfl rfl 0 (by decide) (hts _ tw_483) (fun _ h9 => h9) rfl (by decide +kernel) rfl rfl (Nat.le_of_ble_eq_true rfl) d_MD_put_44 (fun H locs hP hD hS => ?_)
  replace hP : va_P (dC, dI) zz_cl [(q_this, .inr (4, [.int t_0, .int x_elements, .ref q_numbers, .ref q_stair, .ref q_begins, .ref q_row, .ref q_matrix, .int x_many, .ref q_told, .ref q_across, .int x_known, .ref q_power, .ref q_left, .ref q_minors])), (q_numbers, .inl (k_numbers, 16, .inl x_numbers))] H := hP
  replace hD : va_D A [(q_this, .inr (4, [.int t_0, .int x_elements, .ref q_numbers, .ref q_stair, .ref q_begins, .ref q_row, .ref q_matrix, .int x_many, .ref q_told, .ref q_across, .int x_known, .ref q_power, .ref q_left, .ref q_minors])), (q_numbers, .inl (k_numbers, 16, .inl x_numbers))] := hD
  refine lv_aload_n hx hb d_MD_put_47 rfl (lv_at hl 0 rfl) ?_
  refine va_get (D := (dC, dI)) (ci := 4) (v := .int t_0) (C := "StructureRowsModel") (T := T_MD) (N := 14) hx hb hts in_MD hown hK hP 0 rfl rfl 0 (by decide) (hts _ tw_483) (fun _ h9 => h9) rfl d_MD_put_48 ?_
  refine lv_if_gt (tgt := 68) hx hb d_MD_put_51 (by decide) (fun h_3 => ?_) (fun h_3 => ?_)
  · replace hw := hw.1 h_3
    refine lv_iconst (v := 0) hx hb d_MD_put_68 (by decide) ?_
    exact W.zret (v := 0) (ty := .boolean) hx hb hr rfl (fun t ht hW => ⟨⟨0, (t_0, x_known, x_numbers), rfl, hw, by rw [ht]; exact hP, va_K.moved hW.alike hK, hD⟩, hS.F ht⟩) hS.2.2 d_MD_put_69
  · replace hw := hw.2 h_3
    refine lv_aload_n hx hb d_MD_put_54 rfl (lv_at hl 0 rfl) ?_
    refine va_get (D := (dC, dI)) (ci := 4) (v := .ref q_numbers) (C := "StructureRowsModel") (T := T_MD) (N := 14) hx hb hts in_MD hown hK hP 0 rfl rfl 2 (by decide) (hts _ tw_485) (fun _ h9 => h9) rfl d_MD_put_55 ?_
    refine lv_iconst (v := 4) hx hb d_MD_put_58 (by decide) ?_
    refine lv_iload_n hx hb d_MD_put_59 rfl (lv_at hl 1 rfl) ?_
    refine lv_imul hx hb d_MD_put_60 ?_
    refine lv_iload_n hx hb d_MD_put_61 rfl (lv_at hl 2 rfl) ?_
    refine lv_iadd hx hb d_MD_put_62 ?_
    obtain ⟨h_4, hw⟩ := hw
    refine va_iald hx hb hK hP 1 0 rfl rfl h_4 d_MD_put_63 ?_
    refine lv_iload_n hx hb d_MD_put_64 rfl (lv_at hl 3 rfl) ?_
    refine lv_icmp_ne (tgt := 70) hx hb d_MD_put_65 (by decide) (fun h_5 => ?_) (fun h_5 => ?_)
    · replace hw := hw.1 h_5
      refine lv_aload_n hx hb d_MD_put_70 rfl (lv_at hl 0 rfl) ?_
      refine va_get (D := (dC, dI)) (ci := 4) (v := .ref q_numbers) (C := "StructureRowsModel") (T := T_MD) (N := 14) hx hb hts in_MD hown hK hP 0 rfl rfl 2 (by decide) (hts _ tw_485) (fun _ h9 => h9) rfl d_MD_put_71 ?_
      refine lv_iconst (v := 4) hx hb d_MD_put_74 (by decide) ?_
      refine lv_iload_n hx hb d_MD_put_75 rfl (lv_at hl 1 rfl) ?_
      refine lv_imul hx hb d_MD_put_76 ?_
      refine lv_iload_n hx hb d_MD_put_77 rfl (lv_at hl 2 rfl) ?_
      refine lv_iadd hx hb d_MD_put_78 ?_
      refine lv_iload_n hx hb d_MD_put_79 rfl (lv_at hl 3 rfl) ?_
      obtain ⟨h_6, hw⟩ := hw
      obtain ⟨w_7, ew_7⟩ : ∃ y : Nat → Int32, y = upd x_numbers ((4 * u_1) + u_2).toNatClampNeg u_3 := ⟨_, rfl⟩
      replace hw := hw w_7 ew_7
      refine va_iast hx hb hK hP hD hS 1 0 rfl rfl h_6 d_MD_put_80 (fun H locs hP hD hS => ?_)
      rw [← ew_7] at hP hD
      replace hP : va_P (dC, dI) zz_cl [(q_this, .inr (4, [.int t_0, .int x_elements, .ref q_numbers, .ref q_stair, .ref q_begins, .ref q_row, .ref q_matrix, .int x_many, .ref q_told, .ref q_across, .int x_known, .ref q_power, .ref q_left, .ref q_minors])), (q_numbers, .inl (k_numbers, 16, .inl w_7))] H := hP
      replace hD : va_D A [(q_this, .inr (4, [.int t_0, .int x_elements, .ref q_numbers, .ref q_stair, .ref q_begins, .ref q_row, .ref q_matrix, .int x_many, .ref q_told, .ref q_across, .int x_known, .ref q_power, .ref q_left, .ref q_minors])), (q_numbers, .inl (k_numbers, 16, .inl w_7))] := hD
      refine lv_aload_n hx hb d_MD_put_81 rfl (lv_at hl 0 rfl) ?_
      refine lv_iconst (v := 0) hx hb d_MD_put_82 (by decide) ?_
      refine va_put (D := (dC, dI)) (ci := 4) (v := .int 0) (ty := .boolean) (C := "StructureRowsModel") (T := T_MD) (N := 14) hx hb hts in_MD ty_MD tyok_MD nm_MD hown hK hP hD hS 0 rfl rfl 10 (by decide) (hts _ tw_493) (fun _ h9 => h9) rfl (by decide +kernel) rfl rfl (Nat.le_of_ble_eq_true rfl) d_MD_put_83 (fun H locs hP hD hS => ?_)
      replace hP : va_P (dC, dI) zz_cl [(q_this, .inr (4, [.int t_0, .int x_elements, .ref q_numbers, .ref q_stair, .ref q_begins, .ref q_row, .ref q_matrix, .int x_many, .ref q_told, .ref q_across, .int 0, .ref q_power, .ref q_left, .ref q_minors])), (q_numbers, .inl (k_numbers, 16, .inl w_7))] H := hP
      replace hD : va_D A [(q_this, .inr (4, [.int t_0, .int x_elements, .ref q_numbers, .ref q_stair, .ref q_begins, .ref q_row, .ref q_matrix, .int x_many, .ref q_told, .ref q_across, .int 0, .ref q_power, .ref q_left, .ref q_minors])), (q_numbers, .inl (k_numbers, 16, .inl w_7))] := hD
      refine lv_iconst (v := 1) hx hb d_MD_put_86 (by decide) ?_
      exact W.zret (v := 1) (ty := .boolean) hx hb hr rfl (fun t ht hW => ⟨⟨1, (t_0, 0, w_7), rfl, hw, by rw [ht]; exact hP, va_K.moved hW.alike hK, hD⟩, hS.F ht⟩) hS.2.2 d_MD_put_87
    · replace hw := hw.2 h_5
      refine lv_iconst (v := 0) hx hb d_MD_put_68 (by decide) ?_
      exact W.zret (v := 0) (ty := .boolean) hx hb hr rfl (fun t ht hW => ⟨⟨0, (t_0, x_known, x_numbers), rfl, hw, by rw [ht]; exact hP, va_K.moved hW.alike hK, hD⟩, hS.F ht⟩) hS.2.2 d_MD_put_69
def wp_MD_put_21 (x_elements : Int32) (x_many : Int32) (u_1 : Int32) (u_2 : Int32) (u_3 : Int32) (post : Int32 → Int32 → Int32 → (Nat → Int32) → Prop)  (x_code : Int32) (x_known : Int32) (x_numbers : Nat → Int32) : Prop := wp_MD_put_44 x_elements x_many u_1 u_2 u_3 post x_code x_known x_numbers 1
set_option maxHeartbeats 4000000 in
set_option maxRecDepth 100000 in
theorem k_MD_put_21 {p : Program} {l : Launch} {e : Env} {s : State} {m : MethodId} {args : Array Value} {below : List Frame} {meth : Method} {c : Code} {dC : Nat → ClassId} {dI : Nat → Nat → Nat} {A : Nat → Prop} {q_this q_numbers q_stair q_begins q_row q_matrix q_told q_across q_power q_left q_minors : Nat} {k_numbers : ClassId} {x_elements : Int32} {x_many : Int32} {u_1 : Int32} {u_2 : Int32} {u_3 : Int32} {post : Int32 → Int32 → Int32 → (Nat → Int32) → Prop}  (C0 : cx_MD_put p s m args meth c) (hA : ∀ q : Nat, s.heap.size ≤ q → A q) (hK : va_K (dC, dI) zz_cl [(k_numbers, .int)] s) {x_code : Int32} {x_known : Int32} {x_numbers : Nat → Int32} (hw : wp_MD_put_21 x_elements x_many u_1 u_2 u_3 post x_code x_known x_numbers) {H : Heap} {locs : List Loc} {ls : Array Slot} (hP : va_P (dC, dI) zz_cl [(q_this, .inr (4, [.int x_code, .int x_elements, .ref q_numbers, .ref q_stair, .ref q_begins, .ref q_row, .ref q_matrix, .int x_many, .ref q_told, .ref q_across, .int x_known, .ref q_power, .ref q_left, .ref q_minors])), (q_numbers, .inl (k_numbers, 16, .inl x_numbers))] H) (hD : va_D A [(q_this, .inr (4, [.int x_code, .int x_elements, .ref q_numbers, .ref q_stair, .ref q_begins, .ref q_row, .ref q_matrix, .int x_many, .ref q_told, .ref q_across, .int x_known, .ref q_power, .ref q_left, .ref q_minors])), (q_numbers, .inl (k_numbers, 16, .inl x_numbers))]) (hS : va_S A s.heap H locs) (hl : lv_has ls 4 [(0, .ref q_this), (1, .int u_1), (2, .int u_2), (3, .int u_3)]) : W p l e rm_MD_put s m args below meth c H locs 0 0 (MQ below (qz_MD_put dC dI q_this q_numbers q_stair q_begins q_row q_matrix q_told q_across q_power q_left q_minors k_numbers x_elements x_many post A) args s 0 0 A) (F0 m 21 ls [.ref q_this]) := by
  have C1 := C0
  obtain ⟨hx, hb, hr, hml, hown, hts, hlocks⟩ := C1
  unfold wp_MD_put_21 at hw
  refine lv_iconst (v := 1) hx hb d_MD_put_21 (by decide) ?_
  refine lv_goto (tgt := 44) hx hb d_MD_put_22 (by decide) ?_
  exact k_MD_put_44 C0 hA hK hw hP hD hS hl
def wp_MD_put (x_code : Int32) (x_elements : Int32) (x_many : Int32) (x_known : Int32) (x_numbers : Nat → Int32) (a_0 : Int32) (a_1 : Int32) (a_2 : Int32) (post : Int32 → Int32 → Int32 → (Nat → Int32) → Prop) : Prop := wp_MD_isElement x_code x_elements x_many x_known a_0 (fun (r_1 : Int32) => ((r_1 = 0 → (wp_MD_put_21 x_elements x_many a_0 a_1 a_2 post x_code x_known x_numbers)) ∧ (¬ r_1 = 0 → (wp_MD_in a_1.toInt64 0 3 (fun (r_8 : Int32) => ((¬ r_8 = 0 → (wp_MD_in a_2.toInt64 (-5) 5 (fun (r_10 : Int32) => ((r_10 = 0 → (wp_MD_put_44 x_elements x_many a_0 a_1 a_2 post x_code x_known x_numbers 2)) ∧ (¬ r_10 = 0 → (wp_MD_put_44 x_elements x_many a_0 a_1 a_2 post x_code x_known x_numbers 0)))))) ∧ (r_8 = 0 → (wp_MD_put_21 x_elements x_many a_0 a_1 a_2 post x_code x_known x_numbers))))))))
set_option maxHeartbeats 4000000 in
set_option maxRecDepth 100000 in
theorem c_MD_put (l : Launch) (dC : Nat → ClassId) (dI : Nat → Nat → Nat) (q_this q_numbers q_stair q_begins q_row q_matrix q_told q_across q_power q_left q_minors : Nat) (k_numbers : ClassId) (sz : Nat) (x_code : Int32) (x_elements : Int32) (x_many : Int32) (x_known : Int32) (x_numbers : Nat → Int32) (a_0 : Int32) (a_1 : Int32) (a_2 : Int32) (post : Int32 → Int32 → Int32 → (Nat → Int32) → Prop) (hw : wp_MD_put x_code x_elements x_many x_known x_numbers a_0 a_1 a_2 post) : Met l y_MD_put (zz_w y_MD_put b_MD_put 4 (some .boolean)) rm_MD_put (va_Pc [.ref q_this, .int a_0, .int a_1, .int a_2] (fun U => U.heap.size = sz ∧ va_P (dC, dI) zz_cl [(q_this, .inr (4, [.int x_code, .int x_elements, .ref q_numbers, .ref q_stair, .ref q_begins, .ref q_row, .ref q_matrix, .int x_many, .ref q_told, .ref q_across, .int x_known, .ref q_power, .ref q_left, .ref q_minors])), (q_numbers, .inl (k_numbers, 16, .inl x_numbers))] U.heap ∧ va_K (dC, dI) zz_cl [(k_numbers, .int)] U ∧ va_D (fun _ => True) [(q_this, .inr (4, [.int x_code, .int x_elements, .ref q_numbers, .ref q_stair, .ref q_begins, .ref q_row, .ref q_matrix, .int x_many, .ref q_told, .ref q_across, .int x_known, .ref q_power, .ref q_left, .ref q_minors])), (q_numbers, .inl (k_numbers, 16, .inl x_numbers))])) (qz_MD_put dC dI q_this q_numbers q_stair q_begins q_row q_matrix q_told q_across q_power q_left q_minors k_numbers x_elements x_many post (va_A [(q_this, .inr (4, [.int x_code, .int x_elements, .ref q_numbers, .ref q_stair, .ref q_begins, .ref q_row, .ref q_matrix, .int x_many, .ref q_told, .ref q_across, .int x_known, .ref q_power, .ref q_left, .ref q_minors])), (q_numbers, .inl (k_numbers, 16, .inl x_numbers))] sz)) 0 0 (va_A [(q_this, .inr (4, [.int x_code, .int x_elements, .ref q_numbers, .ref q_stair, .ref q_begins, .ref q_row, .ref q_matrix, .int x_many, .ref q_told, .ref q_across, .int x_known, .ref q_power, .ref q_left, .ref q_minors])), (q_numbers, .inl (k_numbers, 16, .inl x_numbers))] sz) := by
  refine Met.ofW (cc := b_MD_put) (maxL := 4) (ret := (some .boolean)) (by decide) rfl ?_
  intro p e s m args below meth c s₁ B hml hv
  obtain ⟨rfl, hsz, hP, hK, hD0⟩ := hv
  have hx := B.exec
  have hb := B.bytes
  have hr := B.returns
  have hts0 := atoms_spec (ws := (zz_w y_MD_put b_MD_put 4 (some .boolean))) B.pre
  have hts : ∀ w ∈ zz_GW, w.before _ s = true := fun w h => hts0 w (List.mem_cons_of_mem _ h)
  clear hts0
  have hown : s.vm.findClass "StructureRowsModel" = some m.cls := findClass_of_methodNamed B.named
  have hlocks := B.notSynchronized
  have C0 : cx_MD_put p s m _ meth c := ⟨hx, hb, hr, hml, hown, hts, hlocks⟩
  subst hsz
  have hD := hD0.self (sz := s.heap.size)
  generalize hAe : va_A [(q_this, .inr (4, [.int x_code, .int x_elements, .ref q_numbers, .ref q_stair, .ref q_begins, .ref q_row, .ref q_matrix, .int x_many, .ref q_told, .ref q_across, .int x_known, .ref q_power, .ref q_left, .ref q_minors])), (q_numbers, .inl (k_numbers, 16, .inl x_numbers))] s.heap.size = A at hD ⊢
  have hA : ∀ q : Nat, s.heap.size ≤ q → A q := fun q h => by rw [← hAe]; exact Or.inr h
  clear hAe hD0
  have hS : va_S A s.heap s.heap [] := va_S.rf
  have hl := lv_entry ([.ref q_this, .int a_0, .int a_1, .int a_2]) (n := 4) (Nat.le_of_ble_eq_true rfl)
  rw [lg_entry_eq]
  generalize (lg_sl ([.ref q_this, .int a_0, .int a_1, .int a_2]) ++ List.replicate (4 - (lg_sl ([.ref q_this, .int a_0, .int a_1, .int a_2])).length) Slot.unset).toArray = ls at hl ⊢
  replace hl : lv_has ls 4 [(0, .ref q_this), (1, .int a_0), (2, .int a_1), (3, .int a_2)] := hl
  unfold wp_MD_put at hw
  change W p l e rm_MD_put s m _ below meth c s.heap [] 0 0 _ _
  refine lv_aload_n hx hb d_MD_put_0 rfl (lv_at hl 0 rfl) ?_
  refine lv_aload_n hx hb d_MD_put_1 rfl (lv_at hl 0 rfl) ?_
  refine lv_iload_n hx hb d_MD_put_2 rfl (lv_at hl 1 rfl) ?_
  refine go_MD_isElement (wr := [(q_numbers, .inl (k_numbers, 16, .inl x_numbers))]) ⟨hx, hb, hml, hown, hts⟩ (zz_cwV 1 hts tw_542 tw_539 tw_541 tw_16 tw_35 ⟨by decide, by decide, by decide +kernel⟩ ⟨Nat.le_of_ble_eq_true rfl, Nat.le_of_ble_eq_true rfl⟩) hK hP hD hS hA [0] [1] [] rfl rfl (by decide) rfl (by decide) (by decide) rfl hw hl.1 (Nat.le_of_ble_eq_true rfl) d_MD_put_3 ⟨Nat.le_of_ble_eq_true rfl, Nat.le_of_ble_eq_true rfl⟩ (fun r_1 H locs hw hP hD hS => ?_)
  replace hP : va_P (dC, dI) zz_cl [(q_numbers, .inl (k_numbers, 16, .inl x_numbers)), (q_this, .inr (4, [.int x_code, .int x_elements, .ref q_numbers, .ref q_stair, .ref q_begins, .ref q_row, .ref q_matrix, .int x_many, .ref q_told, .ref q_across, .int x_known, .ref q_power, .ref q_left, .ref q_minors]))] H := hP
  replace hD : va_D A [(q_numbers, .inl (k_numbers, 16, .inl x_numbers)), (q_this, .inr (4, [.int x_code, .int x_elements, .ref q_numbers, .ref q_stair, .ref q_begins, .ref q_row, .ref q_matrix, .int x_many, .ref q_told, .ref q_across, .int x_known, .ref q_power, .ref q_left, .ref q_minors]))] := hD
  refine lv_if_eq (tgt := 21) hx hb d_MD_put_6 (by decide) (fun h_2 => ?_) (fun h_2 => ?_)
  · replace hw := hw.1 h_2
    exact k_MD_put_21 C0 hA hK hw (hP.sub [1, 0] rfl) (hD.sub [1, 0] (by decide) rfl) hS hl
  · replace hw := hw.2 h_2
    refine lv_iload_n hx hb d_MD_put_9 rfl (lv_at hl 2 rfl) ?_
    refine lv_i2l (v := a_1.toInt64) hx hb d_MD_put_10 rfl ?_
    refine lv_lconst (v := 0) hx hb d_MD_put_11 (by decide) ?_
    refine lv_ldc2 (v := 3) hx hb hown (hts _ tw_546) d_MD_put_12 ?_
    refine go_MD_in (wr := [(q_numbers, .inl (k_numbers, 16, .inl x_numbers)), (q_this, .inr (4, [.int x_code, .int x_elements, .ref q_numbers, .ref q_stair, .ref q_begins, .ref q_row, .ref q_matrix, .int x_many, .ref q_told, .ref q_across, .int x_known, .ref q_power, .ref q_left, .ref q_minors]))]) ⟨hx, hb, hml, hown, hts⟩ (zz_cwS 3 hts tw_545 tw_543 tw_544 tw_35 ⟨by decide, by decide, by decide +kernel⟩ ⟨Nat.le_of_ble_eq_true rfl, Nat.le_of_ble_eq_true rfl⟩) hK hP hD hS hA [] [0, 1] [] rfl rfl (by decide) rfl (by decide) (by decide) rfl hw hl.1 (Nat.le_of_ble_eq_true rfl) d_MD_put_15 ⟨Nat.le_of_ble_eq_true rfl, Nat.le_of_ble_eq_true rfl⟩ (fun r_8 H locs hw hP hD hS => ?_)
    replace hP : va_P (dC, dI) zz_cl [(q_numbers, .inl (k_numbers, 16, .inl x_numbers)), (q_this, .inr (4, [.int x_code, .int x_elements, .ref q_numbers, .ref q_stair, .ref q_begins, .ref q_row, .ref q_matrix, .int x_many, .ref q_told, .ref q_across, .int x_known, .ref q_power, .ref q_left, .ref q_minors]))] H := hP
    replace hD : va_D A [(q_numbers, .inl (k_numbers, 16, .inl x_numbers)), (q_this, .inr (4, [.int x_code, .int x_elements, .ref q_numbers, .ref q_stair, .ref q_begins, .ref q_row, .ref q_matrix, .int x_many, .ref q_told, .ref q_across, .int x_known, .ref q_power, .ref q_left, .ref q_minors]))] := hD
    refine lv_if_ne (tgt := 25) hx hb d_MD_put_18 (by decide) (fun h_9 => ?_) (fun h_9 => ?_)
    · replace hw := hw.1 h_9
      refine lv_iload_n hx hb d_MD_put_25 rfl (lv_at hl 3 rfl) ?_
      refine lv_i2l (v := a_2.toInt64) hx hb d_MD_put_26 rfl ?_
      refine lv_ldc2 (v := (-5)) hx hb hown (hts _ tw_547) d_MD_put_27 ?_
      refine lv_ldc2 (v := 5) hx hb hown (hts _ tw_548) d_MD_put_30 ?_
      refine go_MD_in (wr := [(q_numbers, .inl (k_numbers, 16, .inl x_numbers)), (q_this, .inr (4, [.int x_code, .int x_elements, .ref q_numbers, .ref q_stair, .ref q_begins, .ref q_row, .ref q_matrix, .int x_many, .ref q_told, .ref q_across, .int x_known, .ref q_power, .ref q_left, .ref q_minors]))]) ⟨hx, hb, hml, hown, hts⟩ (zz_cwS 3 hts tw_545 tw_543 tw_544 tw_35 ⟨by decide, by decide, by decide +kernel⟩ ⟨Nat.le_of_ble_eq_true rfl, Nat.le_of_ble_eq_true rfl⟩) hK hP hD hS hA [] [0, 1] [] rfl rfl (by decide) rfl (by decide) (by decide) rfl hw hl.1 (Nat.le_of_ble_eq_true rfl) d_MD_put_33 ⟨Nat.le_of_ble_eq_true rfl, Nat.le_of_ble_eq_true rfl⟩ (fun r_10 H locs hw hP hD hS => ?_)
      replace hP : va_P (dC, dI) zz_cl [(q_numbers, .inl (k_numbers, 16, .inl x_numbers)), (q_this, .inr (4, [.int x_code, .int x_elements, .ref q_numbers, .ref q_stair, .ref q_begins, .ref q_row, .ref q_matrix, .int x_many, .ref q_told, .ref q_across, .int x_known, .ref q_power, .ref q_left, .ref q_minors]))] H := hP
      replace hD : va_D A [(q_numbers, .inl (k_numbers, 16, .inl x_numbers)), (q_this, .inr (4, [.int x_code, .int x_elements, .ref q_numbers, .ref q_stair, .ref q_begins, .ref q_row, .ref q_matrix, .int x_many, .ref q_told, .ref q_across, .int x_known, .ref q_power, .ref q_left, .ref q_minors]))] := hD
      refine lv_if_eq (tgt := 43) hx hb d_MD_put_36 (by decide) (fun h_11 => ?_) (fun h_11 => ?_)
      · replace hw := hw.1 h_11
        refine lv_iconst (v := 2) hx hb d_MD_put_43 (by decide) ?_
        exact k_MD_put_44 C0 hA hK hw (hP.sub [1, 0] rfl) (hD.sub [1, 0] (by decide) rfl) hS hl
      · replace hw := hw.2 h_11
        refine lv_iconst (v := 0) hx hb d_MD_put_39 (by decide) ?_
        refine lv_goto (tgt := 44) hx hb d_MD_put_40 (by decide) ?_
        exact k_MD_put_44 C0 hA hK hw (hP.sub [1, 0] rfl) (hD.sub [1, 0] (by decide) rfl) hS hl
    · replace hw := hw.2 h_9
      exact k_MD_put_21 C0 hA hK hw (hP.sub [1, 0] rfl) (hD.sub [1, 0] (by decide) rfl) hS hl
set_option maxHeartbeats 4000000 in
set_option maxRecDepth 100000 in
theorem go_MD_put {p : Program} {l : Launch} {e : Env} {R : Room} {s : State} {m : MethodId} {args : Array Value} {below : List Frame} {meth : Method} {c : Code} {H : Heap} {locs : List Loc} {cells slots : Nat} {Q : State → Prop} {cc : ByteArray} {nL : Nat} {Ts : List Cond} {own : String} {index : Nat} {A0 : Nat → Prop} {H0 : Heap} {dC : Nat → ClassId} {dI : Nat → Nat → Nat} {ws wr : va_W} {tys : List (ClassId × FieldType)} {q_this q_numbers q_stair q_begins q_row q_matrix q_told q_across q_power q_left q_minors : Nat} {k_numbers : ClassId} {x_code : Int32} {x_elements : Int32} {x_many : Int32} {x_known : Int32} {x_numbers : Nat → Int32} {a_0 : Int32} {a_1 : Int32} {a_2 : Int32} {post : Int32 → Int32 → Int32 → (Nat → Int32) → Prop} (S : CallFix p m c cc nL s args Ts own) (cw : CallW R s args own "StructureRowsModel" index y_MD_put b_MD_put 4 (some .boolean) (zz_w y_MD_put b_MD_put 4 (some .boolean)) rm_MD_put 0 0 3) (hK : va_K (dC, dI) zz_cl tys s) (hP : va_P (dC, dI) zz_cl ws H) (hD : va_D A0 ws) (hS : va_S A0 H0 H locs) (hA : ∀ q, H0.size ≤ q → A0 q) (isC isR kt : List Nat) (h1 : isC.filterMap (fun i => ws[i]?) = [(q_this, .inr (4, [.int x_code, .int x_elements, .ref q_numbers, .ref q_stair, .ref q_begins, .ref q_row, .ref q_matrix, .int x_many, .ref q_told, .ref q_across, .int x_known, .ref q_power, .ref q_left, .ref q_minors])), (q_numbers, .inl (k_numbers, 16, .inl x_numbers))]) (h2 : isC.map (fun i => ws[i]?) = ([(q_this, .inr (4, [.int x_code, .int x_elements, .ref q_numbers, .ref q_stair, .ref q_begins, .ref q_row, .ref q_matrix, .int x_many, .ref q_told, .ref q_across, .int x_known, .ref q_power, .ref q_left, .ref q_minors])), (q_numbers, .inl (k_numbers, 16, .inl x_numbers))] : va_W).map some) (h3 : va_nd isC = true) (h4 : isR.map (fun i => ws[i]?) = wr.map some) (h5 : va_nd isR = true) (h6 : ∀ i ∈ isR, i ∉ isC) (h7 : kt.filterMap (fun i => tys[i]?) = [(k_numbers, .int)]) (hw : wp_MD_put x_code x_elements x_many x_known x_numbers a_0 a_1 a_2 post) {pc : Nat} {ls : Array Slot} {rest : List Value} (hsize : ls.size = nL) (hrest : (rest.map fun v => v.category).sum ≤ 8) (hdg : decode cc pc = .ok (.invokevirtual index, 3)) (hf : cells + 0 ≤ R.cells ∧ slots + 0 ≤ R.slots) (kk : ∀ (r : Int32) (m0 : Int32) (m1 : Int32) (m2 : Nat → Int32) (H1 : Heap) (locs1 : List Loc), post r m0 m1 m2 → va_P (dC, dI) zz_cl (wr ++ [(q_this, .inr (4, [.int m0, .int x_elements, .ref q_numbers, .ref q_stair, .ref q_begins, .ref q_row, .ref q_matrix, .int x_many, .ref q_told, .ref q_across, .int m1, .ref q_power, .ref q_left, .ref q_minors])), (q_numbers, .inl (k_numbers, 16, .inl m2))]) H1 → va_D A0 (wr ++ [(q_this, .inr (4, [.int m0, .int x_elements, .ref q_numbers, .ref q_stair, .ref q_begins, .ref q_row, .ref q_matrix, .int x_many, .ref q_told, .ref q_across, .int m1, .ref q_power, .ref q_left, .ref q_minors])), (q_numbers, .inl (k_numbers, 16, .inl m2))]) → va_S A0 H0 H1 locs1 → W p l e R s m args below meth c H1 locs1 (cells + 0) (slots + 0) Q (F0 m (pc + 3) ls (.int r :: rest))) : W p l e R s m args below meth c H locs cells slots Q (F0 m pc ls (.int a_2 :: .int a_1 :: .int a_0 :: .ref q_this :: rest)) := by
  have hPc := hP.sub (ws' := [(q_this, .inr (4, [.int x_code, .int x_elements, .ref q_numbers, .ref q_stair, .ref q_begins, .ref q_row, .ref q_matrix, .int x_many, .ref q_told, .ref q_across, .int x_known, .ref q_power, .ref q_left, .ref q_minors])), (q_numbers, .inl (k_numbers, 16, .inl x_numbers))]) isC h1
  have hDc := hD.sub (ws' := [(q_this, .inr (4, [.int x_code, .int x_elements, .ref q_numbers, .ref q_stair, .ref q_begins, .ref q_row, .ref q_matrix, .int x_many, .ref q_told, .ref q_across, .int x_known, .ref q_power, .ref q_left, .ref q_minors])), (q_numbers, .inl (k_numbers, 16, .inl x_numbers))]) isC h3 h2
  have hKc := hK.sub (tys' := [(k_numbers, .int)]) kt h7
  have hFc := va_free (wc := [(q_this, .inr (4, [.int x_code, .int x_elements, .ref q_numbers, .ref q_stair, .ref q_begins, .ref q_row, .ref q_matrix, .int x_many, .ref q_told, .ref q_across, .int x_known, .ref q_power, .ref q_left, .ref q_minors])), (q_numbers, .inl (k_numbers, 16, .inl x_numbers))]) hD hS hA isC h2
  refine va_calli (va_runV (As := [.int a_0, .int a_1, .int a_2]) (rest := rest) S (c_MD_put l dC dI q_this q_numbers q_stair q_begins q_row q_matrix q_told q_across q_power q_left q_minors k_numbers H.size x_code x_elements x_many x_known x_numbers a_0 a_1 a_2 post hw) cw ⟨zz_blind, va_recv hKc hPc (ci := 4) (q0 := 0) rfl rfl, fun U hU hW => ⟨rfl, by rw [hU], by rw [hU]; exact hPc, va_K.moved hW.alike hKc, hDc.weaken (fun _ _ _ _ => trivial)⟩⟩ rfl rfl hsize rfl (lv_room hrest) hdg hf) hS (fun q _ h => hFc q h) hFc (fun r u t H1 locs ht hvm hw hB hz1 hk1 hS => ?_)
  obtain ⟨hP1, hK1, hD1⟩ := hB
  rw [ht] at hP1
  obtain ⟨hP2, hD2⟩ := va_join (wr := wr) (w1 := [(q_this, .inr (4, [.int u.1, .int x_elements, .ref q_numbers, .ref q_stair, .ref q_begins, .ref q_row, .ref q_matrix, .int x_many, .ref q_told, .ref q_across, .int u.2.1, .ref q_power, .ref q_left, .ref q_minors])), (q_numbers, .inl (k_numbers, 16, .inl u.2.2))]) hP hD isC isR h2 h4 h5 h6 hk1 hFc hP1 hD1
  exact kk r u.1 u.2.1 u.2.2 H1 locs hw hP2 hD2 hS
abbrev rm_MD_at : Room := { frames := 2, cells := 0, slots := 0, locals := 46 }
abbrev qz_MD_at (dC : Nat → ClassId) (dI : Nat → Nat → Nat) (q_this q_numbers q_stair q_begins q_row q_matrix q_told q_across q_power q_left q_minors : Nat) (k_numbers : ClassId) (x_elements : Int32) (x_many : Int32) (x_known : Int32) (x_numbers : Nat → Int32) (post : Int32 → Int32 → Prop) (A : Nat → Prop) : Array Value → State → Outcome → State → Prop := va_Qi (fun (r : Int32) (u : Int32) => post r u) (fun (u : Int32) (t : State) => va_P (dC, dI) zz_cl [(q_this, .inr (4, [.int u, .int x_elements, .ref q_numbers, .ref q_stair, .ref q_begins, .ref q_row, .ref q_matrix, .int x_many, .ref q_told, .ref q_across, .int x_known, .ref q_power, .ref q_left, .ref q_minors])), (q_numbers, .inl (k_numbers, 16, .inl x_numbers))] t.heap ∧ va_K (dC, dI) zz_cl [(k_numbers, .int)] t ∧ va_D A [(q_this, .inr (4, [.int u, .int x_elements, .ref q_numbers, .ref q_stair, .ref q_begins, .ref q_row, .ref q_matrix, .int x_many, .ref q_told, .ref q_across, .int x_known, .ref q_power, .ref q_left, .ref q_minors])), (q_numbers, .inl (k_numbers, 16, .inl x_numbers))]) A
def cx_MD_at (p : Program) (s : State) (m : MethodId) (args : Array Value) (meth : Method) (c : Code) : Prop := p.tables.exec = Jvm.exec ∧ c.code = b_MD_at ∧ meth.sig.returnType = (some .int) ∧ c.maxLocals = 3 ∧ s.vm.findClass "StructureRowsModel" = some m.cls ∧ (∀ w ∈ zz_GW, w.before args s = true) ∧ meth.locks = false
def wp_MD_at_26 (x_elements : Int32) (x_many : Int32) (x_known : Int32) (x_numbers : Nat → Int32) (u_1 : Int32) (u_2 : Int32) (post : Int32 → Int32 → Prop)  (x_code : Int32) (t_0 : Int32) : Prop := (t_0 ≤ 0 → (vp_in ((4 * u_1) + u_2) 16 ∧ (post (x_numbers ((4 * u_1) + u_2).toNatClampNeg) t_0))) ∧ (¬ t_0 ≤ 0 → (post 0 t_0))
set_option maxHeartbeats 4000000 in
set_option maxRecDepth 100000 in
theorem k_MD_at_26 {p : Program} {l : Launch} {e : Env} {s : State} {m : MethodId} {args : Array Value} {below : List Frame} {meth : Method} {c : Code} {dC : Nat → ClassId} {dI : Nat → Nat → Nat} {A : Nat → Prop} {q_this q_numbers q_stair q_begins q_row q_matrix q_told q_across q_power q_left q_minors : Nat} {k_numbers : ClassId} {x_elements : Int32} {x_many : Int32} {x_known : Int32} {x_numbers : Nat → Int32} {u_1 : Int32} {u_2 : Int32} {post : Int32 → Int32 → Prop}  (C0 : cx_MD_at p s m args meth c) (hA : ∀ q : Nat, s.heap.size ≤ q → A q) (hK : va_K (dC, dI) zz_cl [(k_numbers, .int)] s) {x_code : Int32} {t_0 : Int32} (hw : wp_MD_at_26 x_elements x_many x_known x_numbers u_1 u_2 post x_code t_0) {H : Heap} {locs : List Loc} {ls : Array Slot} (hP : va_P (dC, dI) zz_cl [(q_this, .inr (4, [.int x_code, .int x_elements, .ref q_numbers, .ref q_stair, .ref q_begins, .ref q_row, .ref q_matrix, .int x_many, .ref q_told, .ref q_across, .int x_known, .ref q_power, .ref q_left, .ref q_minors])), (q_numbers, .inl (k_numbers, 16, .inl x_numbers))] H) (hD : va_D A [(q_this, .inr (4, [.int x_code, .int x_elements, .ref q_numbers, .ref q_stair, .ref q_begins, .ref q_row, .ref q_matrix, .int x_many, .ref q_told, .ref q_across, .int x_known, .ref q_power, .ref q_left, .ref q_minors])), (q_numbers, .inl (k_numbers, 16, .inl x_numbers))]) (hS : va_S A s.heap H locs) (hl : lv_has ls 3 [(0, .ref q_this), (1, .int u_1), (2, .int u_2)]) : W p l e rm_MD_at s m args below meth c H locs 0 0 (MQ below (qz_MD_at dC dI q_this q_numbers q_stair q_begins q_row q_matrix q_told q_across q_power q_left q_minors k_numbers x_elements x_many x_known x_numbers post A) args s 0 0 A) (F0 m 26 ls [.int t_0, .ref q_this]) := by
  have C1 := C0
  obtain ⟨hx, hb, hr, hml, hown, hts, hlocks⟩ := C1
  unfold wp_MD_at_26 at hw
  refine va_put (D := (dC, dI)) (ci := 4) (v := .int t_0) (ty := .int) (C := "StructureRowsModel") (T := T_MD) (N := 14) hx hb hts in_MD ty_MD tyok_MD nm_MD hown hK hP hD hS 0 rfl rfl 0 (by decide) (hts _ tw_483) (fun _ h9 => h9) rfl (by decide +kernel) rfl rfl (Nat.le_of_ble_eq_true rfl) d_MD_at_26 (fun H locs hP hD hS => ?_)
  replace hP : va_P (dC, dI) zz_cl [(q_this, .inr (4, [.int t_0, .int x_elements, .ref q_numbers, .ref q_stair, .ref q_begins, .ref q_row, .ref q_matrix, .int x_many, .ref q_told, .ref q_across, .int x_known, .ref q_power, .ref q_left, .ref q_minors])), (q_numbers, .inl (k_numbers, 16, .inl x_numbers))] H := hP
  replace hD : va_D A [(q_this, .inr (4, [.int t_0, .int x_elements, .ref q_numbers, .ref q_stair, .ref q_begins, .ref q_row, .ref q_matrix, .int x_many, .ref q_told, .ref q_across, .int x_known, .ref q_power, .ref q_left, .ref q_minors])), (q_numbers, .inl (k_numbers, 16, .inl x_numbers))] := hD
  refine lv_aload_n hx hb d_MD_at_29 rfl (lv_at hl 0 rfl) ?_
  refine va_get (D := (dC, dI)) (ci := 4) (v := .int t_0) (C := "StructureRowsModel") (T := T_MD) (N := 14) hx hb hts in_MD hown hK hP 0 rfl rfl 0 (by decide) (hts _ tw_483) (fun _ h9 => h9) rfl d_MD_at_30 ?_
  refine lv_if_le (tgt := 40) hx hb d_MD_at_33 (by decide) (fun h_3 => ?_) (fun h_3 => ?_)
  · replace hw := hw.1 h_3
    refine lv_aload_n hx hb d_MD_at_40 rfl (lv_at hl 0 rfl) ?_
    refine va_get (D := (dC, dI)) (ci := 4) (v := .ref q_numbers) (C := "StructureRowsModel") (T := T_MD) (N := 14) hx hb hts in_MD hown hK hP 0 rfl rfl 2 (by decide) (hts _ tw_485) (fun _ h9 => h9) rfl d_MD_at_41 ?_
    refine lv_iconst (v := 4) hx hb d_MD_at_44 (by decide) ?_
    refine lv_iload_n hx hb d_MD_at_45 rfl (lv_at hl 1 rfl) ?_
    refine lv_imul hx hb d_MD_at_46 ?_
    refine lv_iload_n hx hb d_MD_at_47 rfl (lv_at hl 2 rfl) ?_
    refine lv_iadd hx hb d_MD_at_48 ?_
    obtain ⟨h_4, hw⟩ := hw
    refine va_iald hx hb hK hP 1 0 rfl rfl h_4 d_MD_at_49 ?_
    exact W.iret (v := x_numbers ((4 * u_1) + u_2).toNatClampNeg) hx hb hr (fun t ht hW => ⟨⟨x_numbers ((4 * u_1) + u_2).toNatClampNeg, t_0, rfl, hw, by rw [ht]; exact hP, va_K.moved hW.alike hK, hD⟩, hS.F ht⟩) hS.2.2 d_MD_at_50
  · replace hw := hw.2 h_3
    refine lv_iconst (v := 0) hx hb d_MD_at_36 (by decide) ?_
    refine lv_goto (tgt := 50) hx hb d_MD_at_37 (by decide) ?_
    exact W.iret (v := 0) hx hb hr (fun t ht hW => ⟨⟨0, t_0, rfl, hw, by rw [ht]; exact hP, va_K.moved hW.alike hK, hD⟩, hS.F ht⟩) hS.2.2 d_MD_at_50
def wp_MD_at_25 (x_elements : Int32) (x_many : Int32) (x_known : Int32) (x_numbers : Nat → Int32) (u_1 : Int32) (u_2 : Int32) (post : Int32 → Int32 → Prop)  (x_code : Int32) : Prop := wp_MD_at_26 x_elements x_many x_known x_numbers u_1 u_2 post x_code 1
set_option maxHeartbeats 4000000 in
set_option maxRecDepth 100000 in
theorem k_MD_at_25 {p : Program} {l : Launch} {e : Env} {s : State} {m : MethodId} {args : Array Value} {below : List Frame} {meth : Method} {c : Code} {dC : Nat → ClassId} {dI : Nat → Nat → Nat} {A : Nat → Prop} {q_this q_numbers q_stair q_begins q_row q_matrix q_told q_across q_power q_left q_minors : Nat} {k_numbers : ClassId} {x_elements : Int32} {x_many : Int32} {x_known : Int32} {x_numbers : Nat → Int32} {u_1 : Int32} {u_2 : Int32} {post : Int32 → Int32 → Prop}  (C0 : cx_MD_at p s m args meth c) (hA : ∀ q : Nat, s.heap.size ≤ q → A q) (hK : va_K (dC, dI) zz_cl [(k_numbers, .int)] s) {x_code : Int32} (hw : wp_MD_at_25 x_elements x_many x_known x_numbers u_1 u_2 post x_code) {H : Heap} {locs : List Loc} {ls : Array Slot} (hP : va_P (dC, dI) zz_cl [(q_this, .inr (4, [.int x_code, .int x_elements, .ref q_numbers, .ref q_stair, .ref q_begins, .ref q_row, .ref q_matrix, .int x_many, .ref q_told, .ref q_across, .int x_known, .ref q_power, .ref q_left, .ref q_minors])), (q_numbers, .inl (k_numbers, 16, .inl x_numbers))] H) (hD : va_D A [(q_this, .inr (4, [.int x_code, .int x_elements, .ref q_numbers, .ref q_stair, .ref q_begins, .ref q_row, .ref q_matrix, .int x_many, .ref q_told, .ref q_across, .int x_known, .ref q_power, .ref q_left, .ref q_minors])), (q_numbers, .inl (k_numbers, 16, .inl x_numbers))]) (hS : va_S A s.heap H locs) (hl : lv_has ls 3 [(0, .ref q_this), (1, .int u_1), (2, .int u_2)]) : W p l e rm_MD_at s m args below meth c H locs 0 0 (MQ below (qz_MD_at dC dI q_this q_numbers q_stair q_begins q_row q_matrix q_told q_across q_power q_left q_minors k_numbers x_elements x_many x_known x_numbers post A) args s 0 0 A) (F0 m 25 ls [.ref q_this]) := by
  have C1 := C0
  obtain ⟨hx, hb, hr, hml, hown, hts, hlocks⟩ := C1
  unfold wp_MD_at_25 at hw
  refine lv_iconst (v := 1) hx hb d_MD_at_25 (by decide) ?_
  exact k_MD_at_26 C0 hA hK hw hP hD hS hl
def wp_MD_at (x_code : Int32) (x_elements : Int32) (x_many : Int32) (x_known : Int32) (x_numbers : Nat → Int32) (a_0 : Int32) (a_1 : Int32) (post : Int32 → Int32 → Prop) : Prop := wp_MD_isElement x_code x_elements x_many x_known a_0 (fun (r_1 : Int32) => ((r_1 = 0 → (wp_MD_at_25 x_elements x_many x_known x_numbers a_0 a_1 post x_code)) ∧ (¬ r_1 = 0 → (wp_MD_in a_1.toInt64 0 3 (fun (r_5 : Int32) => ((r_5 = 0 → (wp_MD_at_25 x_elements x_many x_known x_numbers a_0 a_1 post x_code)) ∧ (¬ r_5 = 0 → (wp_MD_at_26 x_elements x_many x_known x_numbers a_0 a_1 post x_code 0))))))))
set_option maxHeartbeats 4000000 in
set_option maxRecDepth 100000 in
theorem c_MD_at (l : Launch) (dC : Nat → ClassId) (dI : Nat → Nat → Nat) (q_this q_numbers q_stair q_begins q_row q_matrix q_told q_across q_power q_left q_minors : Nat) (k_numbers : ClassId) (sz : Nat) (x_code : Int32) (x_elements : Int32) (x_many : Int32) (x_known : Int32) (x_numbers : Nat → Int32) (a_0 : Int32) (a_1 : Int32) (post : Int32 → Int32 → Prop) (hw : wp_MD_at x_code x_elements x_many x_known x_numbers a_0 a_1 post) : Met l y_MD_at (zz_w y_MD_at b_MD_at 3 (some .int)) rm_MD_at (va_Pc [.ref q_this, .int a_0, .int a_1] (fun U => U.heap.size = sz ∧ va_P (dC, dI) zz_cl [(q_this, .inr (4, [.int x_code, .int x_elements, .ref q_numbers, .ref q_stair, .ref q_begins, .ref q_row, .ref q_matrix, .int x_many, .ref q_told, .ref q_across, .int x_known, .ref q_power, .ref q_left, .ref q_minors])), (q_numbers, .inl (k_numbers, 16, .inl x_numbers))] U.heap ∧ va_K (dC, dI) zz_cl [(k_numbers, .int)] U ∧ va_D (fun _ => True) [(q_this, .inr (4, [.int x_code, .int x_elements, .ref q_numbers, .ref q_stair, .ref q_begins, .ref q_row, .ref q_matrix, .int x_many, .ref q_told, .ref q_across, .int x_known, .ref q_power, .ref q_left, .ref q_minors])), (q_numbers, .inl (k_numbers, 16, .inl x_numbers))])) (qz_MD_at dC dI q_this q_numbers q_stair q_begins q_row q_matrix q_told q_across q_power q_left q_minors k_numbers x_elements x_many x_known x_numbers post (va_A [(q_this, .inr (4, [.int x_code, .int x_elements, .ref q_numbers, .ref q_stair, .ref q_begins, .ref q_row, .ref q_matrix, .int x_many, .ref q_told, .ref q_across, .int x_known, .ref q_power, .ref q_left, .ref q_minors])), (q_numbers, .inl (k_numbers, 16, .inl x_numbers))] sz)) 0 0 (va_A [(q_this, .inr (4, [.int x_code, .int x_elements, .ref q_numbers, .ref q_stair, .ref q_begins, .ref q_row, .ref q_matrix, .int x_many, .ref q_told, .ref q_across, .int x_known, .ref q_power, .ref q_left, .ref q_minors])), (q_numbers, .inl (k_numbers, 16, .inl x_numbers))] sz) := by
  refine Met.ofW (cc := b_MD_at) (maxL := 3) (ret := (some .int)) (by decide) rfl ?_
  intro p e s m args below meth c s₁ B hml hv
  obtain ⟨rfl, hsz, hP, hK, hD0⟩ := hv
  have hx := B.exec
  have hb := B.bytes
  have hr := B.returns
  have hts0 := atoms_spec (ws := (zz_w y_MD_at b_MD_at 3 (some .int))) B.pre
  have hts : ∀ w ∈ zz_GW, w.before _ s = true := fun w h => hts0 w (List.mem_cons_of_mem _ h)
  clear hts0
  have hown : s.vm.findClass "StructureRowsModel" = some m.cls := findClass_of_methodNamed B.named
  have hlocks := B.notSynchronized
  have C0 : cx_MD_at p s m _ meth c := ⟨hx, hb, hr, hml, hown, hts, hlocks⟩
  subst hsz
  have hD := hD0.self (sz := s.heap.size)
  generalize hAe : va_A [(q_this, .inr (4, [.int x_code, .int x_elements, .ref q_numbers, .ref q_stair, .ref q_begins, .ref q_row, .ref q_matrix, .int x_many, .ref q_told, .ref q_across, .int x_known, .ref q_power, .ref q_left, .ref q_minors])), (q_numbers, .inl (k_numbers, 16, .inl x_numbers))] s.heap.size = A at hD ⊢
  have hA : ∀ q : Nat, s.heap.size ≤ q → A q := fun q h => by rw [← hAe]; exact Or.inr h
  clear hAe hD0
  have hS : va_S A s.heap s.heap [] := va_S.rf
  have hl := lv_entry ([.ref q_this, .int a_0, .int a_1]) (n := 3) (Nat.le_of_ble_eq_true rfl)
  rw [lg_entry_eq]
  generalize (lg_sl ([.ref q_this, .int a_0, .int a_1]) ++ List.replicate (3 - (lg_sl ([.ref q_this, .int a_0, .int a_1])).length) Slot.unset).toArray = ls at hl ⊢
  replace hl : lv_has ls 3 [(0, .ref q_this), (1, .int a_0), (2, .int a_1)] := hl
  unfold wp_MD_at at hw
  change W p l e rm_MD_at s m _ below meth c s.heap [] 0 0 _ _
  refine lv_aload_n hx hb d_MD_at_0 rfl (lv_at hl 0 rfl) ?_
  refine lv_aload_n hx hb d_MD_at_1 rfl (lv_at hl 0 rfl) ?_
  refine lv_iload_n hx hb d_MD_at_2 rfl (lv_at hl 1 rfl) ?_
  refine go_MD_isElement (wr := [(q_numbers, .inl (k_numbers, 16, .inl x_numbers))]) ⟨hx, hb, hml, hown, hts⟩ (zz_cwV 1 hts tw_542 tw_539 tw_541 tw_16 tw_35 ⟨by decide, by decide, by decide +kernel⟩ ⟨Nat.le_of_ble_eq_true rfl, Nat.le_of_ble_eq_true rfl⟩) hK hP hD hS hA [0] [1] [] rfl rfl (by decide) rfl (by decide) (by decide) rfl hw hl.1 (Nat.le_of_ble_eq_true rfl) d_MD_at_3 ⟨Nat.le_of_ble_eq_true rfl, Nat.le_of_ble_eq_true rfl⟩ (fun r_1 H locs hw hP hD hS => ?_)
  replace hP : va_P (dC, dI) zz_cl [(q_numbers, .inl (k_numbers, 16, .inl x_numbers)), (q_this, .inr (4, [.int x_code, .int x_elements, .ref q_numbers, .ref q_stair, .ref q_begins, .ref q_row, .ref q_matrix, .int x_many, .ref q_told, .ref q_across, .int x_known, .ref q_power, .ref q_left, .ref q_minors]))] H := hP
  replace hD : va_D A [(q_numbers, .inl (k_numbers, 16, .inl x_numbers)), (q_this, .inr (4, [.int x_code, .int x_elements, .ref q_numbers, .ref q_stair, .ref q_begins, .ref q_row, .ref q_matrix, .int x_many, .ref q_told, .ref q_across, .int x_known, .ref q_power, .ref q_left, .ref q_minors]))] := hD
  refine lv_if_eq (tgt := 25) hx hb d_MD_at_6 (by decide) (fun h_2 => ?_) (fun h_2 => ?_)
  · replace hw := hw.1 h_2
    exact k_MD_at_25 C0 hA hK hw (hP.sub [1, 0] rfl) (hD.sub [1, 0] (by decide) rfl) hS hl
  · replace hw := hw.2 h_2
    refine lv_iload_n hx hb d_MD_at_9 rfl (lv_at hl 2 rfl) ?_
    refine lv_i2l (v := a_1.toInt64) hx hb d_MD_at_10 rfl ?_
    refine lv_lconst (v := 0) hx hb d_MD_at_11 (by decide) ?_
    refine lv_ldc2 (v := 3) hx hb hown (hts _ tw_546) d_MD_at_12 ?_
    refine go_MD_in (wr := [(q_numbers, .inl (k_numbers, 16, .inl x_numbers)), (q_this, .inr (4, [.int x_code, .int x_elements, .ref q_numbers, .ref q_stair, .ref q_begins, .ref q_row, .ref q_matrix, .int x_many, .ref q_told, .ref q_across, .int x_known, .ref q_power, .ref q_left, .ref q_minors]))]) ⟨hx, hb, hml, hown, hts⟩ (zz_cwS 3 hts tw_545 tw_543 tw_544 tw_35 ⟨by decide, by decide, by decide +kernel⟩ ⟨Nat.le_of_ble_eq_true rfl, Nat.le_of_ble_eq_true rfl⟩) hK hP hD hS hA [] [0, 1] [] rfl rfl (by decide) rfl (by decide) (by decide) rfl hw hl.1 (Nat.le_of_ble_eq_true rfl) d_MD_at_15 ⟨Nat.le_of_ble_eq_true rfl, Nat.le_of_ble_eq_true rfl⟩ (fun r_5 H locs hw hP hD hS => ?_)
    replace hP : va_P (dC, dI) zz_cl [(q_numbers, .inl (k_numbers, 16, .inl x_numbers)), (q_this, .inr (4, [.int x_code, .int x_elements, .ref q_numbers, .ref q_stair, .ref q_begins, .ref q_row, .ref q_matrix, .int x_many, .ref q_told, .ref q_across, .int x_known, .ref q_power, .ref q_left, .ref q_minors]))] H := hP
    replace hD : va_D A [(q_numbers, .inl (k_numbers, 16, .inl x_numbers)), (q_this, .inr (4, [.int x_code, .int x_elements, .ref q_numbers, .ref q_stair, .ref q_begins, .ref q_row, .ref q_matrix, .int x_many, .ref q_told, .ref q_across, .int x_known, .ref q_power, .ref q_left, .ref q_minors]))] := hD
    refine lv_if_eq (tgt := 25) hx hb d_MD_at_18 (by decide) (fun h_6 => ?_) (fun h_6 => ?_)
    · replace hw := hw.1 h_6
      exact k_MD_at_25 C0 hA hK hw (hP.sub [1, 0] rfl) (hD.sub [1, 0] (by decide) rfl) hS hl
    · replace hw := hw.2 h_6
      refine lv_iconst (v := 0) hx hb d_MD_at_21 (by decide) ?_
      refine lv_goto (tgt := 26) hx hb d_MD_at_22 (by decide) ?_
      exact k_MD_at_26 C0 hA hK hw (hP.sub [1, 0] rfl) (hD.sub [1, 0] (by decide) rfl) hS hl
set_option maxHeartbeats 4000000 in
set_option maxRecDepth 100000 in
theorem go_MD_at {p : Program} {l : Launch} {e : Env} {R : Room} {s : State} {m : MethodId} {args : Array Value} {below : List Frame} {meth : Method} {c : Code} {H : Heap} {locs : List Loc} {cells slots : Nat} {Q : State → Prop} {cc : ByteArray} {nL : Nat} {Ts : List Cond} {own : String} {index : Nat} {A0 : Nat → Prop} {H0 : Heap} {dC : Nat → ClassId} {dI : Nat → Nat → Nat} {ws wr : va_W} {tys : List (ClassId × FieldType)} {q_this q_numbers q_stair q_begins q_row q_matrix q_told q_across q_power q_left q_minors : Nat} {k_numbers : ClassId} {x_code : Int32} {x_elements : Int32} {x_many : Int32} {x_known : Int32} {x_numbers : Nat → Int32} {a_0 : Int32} {a_1 : Int32} {post : Int32 → Int32 → Prop} (S : CallFix p m c cc nL s args Ts own) (cw : CallW R s args own "StructureRowsModel" index y_MD_at b_MD_at 3 (some .int) (zz_w y_MD_at b_MD_at 3 (some .int)) rm_MD_at 0 0 2) (hK : va_K (dC, dI) zz_cl tys s) (hP : va_P (dC, dI) zz_cl ws H) (hD : va_D A0 ws) (hS : va_S A0 H0 H locs) (hA : ∀ q, H0.size ≤ q → A0 q) (isC isR kt : List Nat) (h1 : isC.filterMap (fun i => ws[i]?) = [(q_this, .inr (4, [.int x_code, .int x_elements, .ref q_numbers, .ref q_stair, .ref q_begins, .ref q_row, .ref q_matrix, .int x_many, .ref q_told, .ref q_across, .int x_known, .ref q_power, .ref q_left, .ref q_minors])), (q_numbers, .inl (k_numbers, 16, .inl x_numbers))]) (h2 : isC.map (fun i => ws[i]?) = ([(q_this, .inr (4, [.int x_code, .int x_elements, .ref q_numbers, .ref q_stair, .ref q_begins, .ref q_row, .ref q_matrix, .int x_many, .ref q_told, .ref q_across, .int x_known, .ref q_power, .ref q_left, .ref q_minors])), (q_numbers, .inl (k_numbers, 16, .inl x_numbers))] : va_W).map some) (h3 : va_nd isC = true) (h4 : isR.map (fun i => ws[i]?) = wr.map some) (h5 : va_nd isR = true) (h6 : ∀ i ∈ isR, i ∉ isC) (h7 : kt.filterMap (fun i => tys[i]?) = [(k_numbers, .int)]) (hw : wp_MD_at x_code x_elements x_many x_known x_numbers a_0 a_1 post) {pc : Nat} {ls : Array Slot} {rest : List Value} (hsize : ls.size = nL) (hrest : (rest.map fun v => v.category).sum ≤ 8) (hdg : decode cc pc = .ok (.invokevirtual index, 3)) (hf : cells + 0 ≤ R.cells ∧ slots + 0 ≤ R.slots) (kk : ∀ (r : Int32) (m0 : Int32) (H1 : Heap) (locs1 : List Loc), post r m0 → va_P (dC, dI) zz_cl (wr ++ [(q_this, .inr (4, [.int m0, .int x_elements, .ref q_numbers, .ref q_stair, .ref q_begins, .ref q_row, .ref q_matrix, .int x_many, .ref q_told, .ref q_across, .int x_known, .ref q_power, .ref q_left, .ref q_minors])), (q_numbers, .inl (k_numbers, 16, .inl x_numbers))]) H1 → va_D A0 (wr ++ [(q_this, .inr (4, [.int m0, .int x_elements, .ref q_numbers, .ref q_stair, .ref q_begins, .ref q_row, .ref q_matrix, .int x_many, .ref q_told, .ref q_across, .int x_known, .ref q_power, .ref q_left, .ref q_minors])), (q_numbers, .inl (k_numbers, 16, .inl x_numbers))]) → va_S A0 H0 H1 locs1 → W p l e R s m args below meth c H1 locs1 (cells + 0) (slots + 0) Q (F0 m (pc + 3) ls (.int r :: rest))) : W p l e R s m args below meth c H locs cells slots Q (F0 m pc ls (.int a_1 :: .int a_0 :: .ref q_this :: rest)) := by
  have hPc := hP.sub (ws' := [(q_this, .inr (4, [.int x_code, .int x_elements, .ref q_numbers, .ref q_stair, .ref q_begins, .ref q_row, .ref q_matrix, .int x_many, .ref q_told, .ref q_across, .int x_known, .ref q_power, .ref q_left, .ref q_minors])), (q_numbers, .inl (k_numbers, 16, .inl x_numbers))]) isC h1
  have hDc := hD.sub (ws' := [(q_this, .inr (4, [.int x_code, .int x_elements, .ref q_numbers, .ref q_stair, .ref q_begins, .ref q_row, .ref q_matrix, .int x_many, .ref q_told, .ref q_across, .int x_known, .ref q_power, .ref q_left, .ref q_minors])), (q_numbers, .inl (k_numbers, 16, .inl x_numbers))]) isC h3 h2
  have hKc := hK.sub (tys' := [(k_numbers, .int)]) kt h7
  have hFc := va_free (wc := [(q_this, .inr (4, [.int x_code, .int x_elements, .ref q_numbers, .ref q_stair, .ref q_begins, .ref q_row, .ref q_matrix, .int x_many, .ref q_told, .ref q_across, .int x_known, .ref q_power, .ref q_left, .ref q_minors])), (q_numbers, .inl (k_numbers, 16, .inl x_numbers))]) hD hS hA isC h2
  refine va_calli (va_runV (As := [.int a_0, .int a_1]) (rest := rest) S (c_MD_at l dC dI q_this q_numbers q_stair q_begins q_row q_matrix q_told q_across q_power q_left q_minors k_numbers H.size x_code x_elements x_many x_known x_numbers a_0 a_1 post hw) cw ⟨zz_blind, va_recv hKc hPc (ci := 4) (q0 := 0) rfl rfl, fun U hU hW => ⟨rfl, by rw [hU], by rw [hU]; exact hPc, va_K.moved hW.alike hKc, hDc.weaken (fun _ _ _ _ => trivial)⟩⟩ rfl rfl hsize rfl (lv_room hrest) hdg hf) hS (fun q _ h => hFc q h) hFc (fun r u t H1 locs ht hvm hw hB hz1 hk1 hS => ?_)
  obtain ⟨hP1, hK1, hD1⟩ := hB
  rw [ht] at hP1
  obtain ⟨hP2, hD2⟩ := va_join (wr := wr) (w1 := [(q_this, .inr (4, [.int u, .int x_elements, .ref q_numbers, .ref q_stair, .ref q_begins, .ref q_row, .ref q_matrix, .int x_many, .ref q_told, .ref q_across, .int x_known, .ref q_power, .ref q_left, .ref q_minors])), (q_numbers, .inl (k_numbers, 16, .inl x_numbers))]) hP hD isC isR h2 h4 h5 h6 hk1 hFc hP1 hD1
  exact kk r u H1 locs hw hP2 hD2 hS
abbrev rm_MD_multiply : Room := { frames := 2, cells := 0, slots := 0, locals := 46 }
abbrev qz_MD_multiply (dC : Nat → ClassId) (dI : Nat → Nat → Nat) (q_this q_numbers q_stair q_begins q_row q_matrix q_told q_across q_power q_left q_minors : Nat) (k_numbers : ClassId) (x_elements : Int32) (x_many : Int32) (post : Int32 → Int32 → Int32 → (Nat → Int32) → Prop) (A : Nat → Prop) : Array Value → State → Outcome → State → Prop := va_Qi (fun (r : Int32) (u : Int32 × Int32 × (Nat → Int32)) => post r u.1 u.2.1 u.2.2) (fun (u : Int32 × Int32 × (Nat → Int32)) (t : State) => va_P (dC, dI) zz_cl [(q_this, .inr (4, [.int u.1, .int x_elements, .ref q_numbers, .ref q_stair, .ref q_begins, .ref q_row, .ref q_matrix, .int x_many, .ref q_told, .ref q_across, .int u.2.1, .ref q_power, .ref q_left, .ref q_minors])), (q_numbers, .inl (k_numbers, 16, .inl u.2.2))] t.heap ∧ va_K (dC, dI) zz_cl [(k_numbers, .int)] t ∧ va_D A [(q_this, .inr (4, [.int u.1, .int x_elements, .ref q_numbers, .ref q_stair, .ref q_begins, .ref q_row, .ref q_matrix, .int x_many, .ref q_told, .ref q_across, .int u.2.1, .ref q_power, .ref q_left, .ref q_minors])), (q_numbers, .inl (k_numbers, 16, .inl u.2.2))]) A
def cx_MD_multiply (p : Program) (s : State) (m : MethodId) (args : Array Value) (meth : Method) (c : Code) : Prop := p.tables.exec = Jvm.exec ∧ c.code = b_MD_multiply ∧ meth.sig.returnType = (some .boolean) ∧ c.maxLocals = 5 ∧ s.vm.findClass "StructureRowsModel" = some m.cls ∧ (∀ w ∈ zz_GW, w.before args s = true) ∧ meth.locks = false
def wp_MD_multiply_115b (x_code : Int32) (x_elements : Int32) (x_many : Int32) (x_known : Int32) (u_1 : Int32) (u_2 : Int32) (u_3 : Int32) (post : Int32 → Int32 → Int32 → (Nat → Int32) → Prop)  (P : (Nat → Int32) → Int32 → Prop) (x_numbers : Nat → Int32) (u_4 : Int32) : Prop := (4 ≤ u_4 → (post 1 x_code 0 x_numbers)) ∧ (¬ 4 ≤ u_4 → (∀ v_6 : Int32, v_6 = (4 * u_1) + u_4 → (vp_in v_6 16 ∧ (vp_in ((4 * u_2) + u_4) 16 ∧ (vp_in v_6 16 ∧ ∀ w_10 : Nat → Int32, w_10 = upd x_numbers v_6.toNatClampNeg ((x_numbers v_6.toNatClampNeg) + (u_3 * (x_numbers ((4 * u_2) + u_4).toNatClampNeg))) → (∀ v_11 : Int32, v_11 = u_4 + 1 → (P w_10 v_11)))))))
def wp_MD_multiply_115 (x_code : Int32) (x_elements : Int32) (x_many : Int32) (x_known : Int32) (u_1 : Int32) (u_2 : Int32) (u_3 : Int32) (post : Int32 → Int32 → Int32 → (Nat → Int32) → Prop)  (x_numbers : Nat → Int32) (u_4 : Int32) : Prop := ∀ P : (Nat → Int32) → Int32 → Prop, (∀ (x_numbers : Nat → Int32) (u_4 : Int32), wp_MD_multiply_115b x_code x_elements x_many x_known u_1 u_2 u_3 post P x_numbers u_4 → P x_numbers u_4) → P x_numbers u_4
set_option maxHeartbeats 4000000 in
set_option maxRecDepth 100000 in
theorem k_MD_multiply_115 {p : Program} {l : Launch} {e : Env} {s : State} {m : MethodId} {args : Array Value} {below : List Frame} {meth : Method} {c : Code} {dC : Nat → ClassId} {dI : Nat → Nat → Nat} {A : Nat → Prop} {q_this q_numbers q_stair q_begins q_row q_matrix q_told q_across q_power q_left q_minors : Nat} {k_numbers : ClassId} {x_code : Int32} {x_elements : Int32} {x_many : Int32} {x_known : Int32} {u_1 : Int32} {u_2 : Int32} {u_3 : Int32} {post : Int32 → Int32 → Int32 → (Nat → Int32) → Prop}  (C0 : cx_MD_multiply p s m args meth c) (hA : ∀ q : Nat, s.heap.size ≤ q → A q) (hK : va_K (dC, dI) zz_cl [(k_numbers, .int)] s) {x_numbers : Nat → Int32} {u_4 : Int32} (hw : wp_MD_multiply_115 x_code x_elements x_many x_known u_1 u_2 u_3 post x_numbers u_4) {H : Heap} {locs : List Loc} {ls : Array Slot} (hP : va_P (dC, dI) zz_cl [(q_this, .inr (4, [.int x_code, .int x_elements, .ref q_numbers, .ref q_stair, .ref q_begins, .ref q_row, .ref q_matrix, .int x_many, .ref q_told, .ref q_across, .int x_known, .ref q_power, .ref q_left, .ref q_minors])), (q_numbers, .inl (k_numbers, 16, .inl x_numbers))] H) (hD : va_D A [(q_this, .inr (4, [.int x_code, .int x_elements, .ref q_numbers, .ref q_stair, .ref q_begins, .ref q_row, .ref q_matrix, .int x_many, .ref q_told, .ref q_across, .int x_known, .ref q_power, .ref q_left, .ref q_minors])), (q_numbers, .inl (k_numbers, 16, .inl x_numbers))]) (hS : va_S A s.heap H locs) (hl : lv_has ls 5 [(0, .ref q_this), (1, .int u_1), (2, .int u_2), (3, .int u_3), (4, .int u_4)]) : W p l e rm_MD_multiply s m args below meth c H locs 0 0 (MQ below (qz_MD_multiply dC dI q_this q_numbers q_stair q_begins q_row q_matrix q_told q_across q_power q_left q_minors k_numbers x_elements x_many post A) args s 0 0 A) (F0 m 115 ls []) := by
  have C1 := C0
  obtain ⟨hx, hb, hr, hml, hown, hts, hlocks⟩ := C1
  refine hw (fun (x_numbers : Nat → Int32) (u_4 : Int32) => ∀ (H : Heap) (locs : List Loc) (ls : Array Slot), va_P (dC, dI) zz_cl [(q_this, .inr (4, [.int x_code, .int x_elements, .ref q_numbers, .ref q_stair, .ref q_begins, .ref q_row, .ref q_matrix, .int x_many, .ref q_told, .ref q_across, .int x_known, .ref q_power, .ref q_left, .ref q_minors])), (q_numbers, .inl (k_numbers, 16, .inl x_numbers))] H → va_D A [(q_this, .inr (4, [.int x_code, .int x_elements, .ref q_numbers, .ref q_stair, .ref q_begins, .ref q_row, .ref q_matrix, .int x_many, .ref q_told, .ref q_across, .int x_known, .ref q_power, .ref q_left, .ref q_minors])), (q_numbers, .inl (k_numbers, 16, .inl x_numbers))] → va_S A s.heap H locs → lv_has ls 5 [(0, .ref q_this), (1, .int u_1), (2, .int u_2), (3, .int u_3), (4, .int u_4)] → W p l e rm_MD_multiply s m args below meth c H locs 0 0 (MQ below (qz_MD_multiply dC dI q_this q_numbers q_stair q_begins q_row q_matrix q_told q_across q_power q_left q_minors k_numbers x_elements x_many post A) args s 0 0 A) (F0 m 115 ls [])) ?_ H locs ls hP hD hS hl
  clear hw hP hD hS hl H locs ls
  intro x_numbers u_4 hw H locs ls hP hD hS hl
  unfold wp_MD_multiply_115b at hw
  refine lv_iload hx hb d_MD_multiply_115 (lv_at hl 4 rfl) ?_
  refine lv_iconst (v := 4) hx hb d_MD_multiply_117 (by decide) ?_
  refine lv_icmp_ge (tgt := 154) hx hb d_MD_multiply_118 (by decide) (fun h_5 => ?_) (fun h_5 => ?_)
  · replace hw := hw.1 h_5
    refine lv_aload_n hx hb d_MD_multiply_154 rfl (lv_at hl 0 rfl) ?_
    refine lv_iconst (v := 0) hx hb d_MD_multiply_155 (by decide) ?_
    refine va_put (D := (dC, dI)) (ci := 4) (v := .int 0) (ty := .boolean) (C := "StructureRowsModel") (T := T_MD) (N := 14) hx hb hts in_MD ty_MD tyok_MD nm_MD hown hK hP hD hS 0 rfl rfl 10 (by decide) (hts _ tw_493) (fun _ h9 => h9) rfl (by decide +kernel) rfl rfl (Nat.le_of_ble_eq_true rfl) d_MD_multiply_156 (fun H locs hP hD hS => ?_)
    replace hP : va_P (dC, dI) zz_cl [(q_this, .inr (4, [.int x_code, .int x_elements, .ref q_numbers, .ref q_stair, .ref q_begins, .ref q_row, .ref q_matrix, .int x_many, .ref q_told, .ref q_across, .int 0, .ref q_power, .ref q_left, .ref q_minors])), (q_numbers, .inl (k_numbers, 16, .inl x_numbers))] H := hP
    replace hD : va_D A [(q_this, .inr (4, [.int x_code, .int x_elements, .ref q_numbers, .ref q_stair, .ref q_begins, .ref q_row, .ref q_matrix, .int x_many, .ref q_told, .ref q_across, .int 0, .ref q_power, .ref q_left, .ref q_minors])), (q_numbers, .inl (k_numbers, 16, .inl x_numbers))] := hD
    refine lv_iconst (v := 1) hx hb d_MD_multiply_159 (by decide) ?_
    exact W.zret (v := 1) (ty := .boolean) hx hb hr rfl (fun t ht hW => ⟨⟨1, (x_code, 0, x_numbers), rfl, hw, by rw [ht]; exact hP, va_K.moved hW.alike hK, hD⟩, hS.F ht⟩) hS.2.2 d_MD_multiply_160
  · replace hw := hw.2 h_5
    refine lv_aload_n hx hb d_MD_multiply_121 rfl (lv_at hl 0 rfl) ?_
    refine va_get (D := (dC, dI)) (ci := 4) (v := .ref q_numbers) (C := "StructureRowsModel") (T := T_MD) (N := 14) hx hb hts in_MD hown hK hP 0 rfl rfl 2 (by decide) (hts _ tw_485) (fun _ h9 => h9) rfl d_MD_multiply_122 ?_
    refine lv_iconst (v := 4) hx hb d_MD_multiply_125 (by decide) ?_
    refine lv_iload_n hx hb d_MD_multiply_126 rfl (lv_at hl 1 rfl) ?_
    refine lv_imul hx hb d_MD_multiply_127 ?_
    refine lv_iload hx hb d_MD_multiply_128 (lv_at hl 4 rfl) ?_
    refine lv_iadd hx hb d_MD_multiply_130 ?_
    refine lv_topi (fun v_6 ev_6 => ?_)
    replace hw := hw v_6 ev_6
    refine lv_dup2_11 hx hb d_MD_multiply_131 rfl rfl ?_
    obtain ⟨h_7, hw⟩ := hw
    refine va_iald hx hb hK hP 1 0 rfl rfl h_7 d_MD_multiply_132 ?_
    refine lv_iload_n hx hb d_MD_multiply_133 rfl (lv_at hl 3 rfl) ?_
    refine lv_aload_n hx hb d_MD_multiply_134 rfl (lv_at hl 0 rfl) ?_
    refine va_get (D := (dC, dI)) (ci := 4) (v := .ref q_numbers) (C := "StructureRowsModel") (T := T_MD) (N := 14) hx hb hts in_MD hown hK hP 0 rfl rfl 2 (by decide) (hts _ tw_485) (fun _ h9 => h9) rfl d_MD_multiply_135 ?_
    refine lv_iconst (v := 4) hx hb d_MD_multiply_138 (by decide) ?_
    refine lv_iload_n hx hb d_MD_multiply_139 rfl (lv_at hl 2 rfl) ?_
    refine lv_imul hx hb d_MD_multiply_140 ?_
    refine lv_iload hx hb d_MD_multiply_141 (lv_at hl 4 rfl) ?_
    refine lv_iadd hx hb d_MD_multiply_143 ?_
    obtain ⟨h_8, hw⟩ := hw
    refine va_iald hx hb hK hP 1 0 rfl rfl h_8 d_MD_multiply_144 ?_
    refine lv_imul hx hb d_MD_multiply_145 ?_
    refine lv_iadd hx hb d_MD_multiply_146 ?_
    obtain ⟨h_9, hw⟩ := hw
    obtain ⟨w_10, ew_10⟩ : ∃ y : Nat → Int32, y = upd x_numbers v_6.toNatClampNeg ((x_numbers v_6.toNatClampNeg) + (u_3 * (x_numbers ((4 * u_2) + u_4).toNatClampNeg))) := ⟨_, rfl⟩
    replace hw := hw w_10 ew_10
    refine va_iast hx hb hK hP hD hS 1 0 rfl rfl h_9 d_MD_multiply_147 (fun H locs hP hD hS => ?_)
    rw [← ew_10] at hP hD
    replace hP : va_P (dC, dI) zz_cl [(q_this, .inr (4, [.int x_code, .int x_elements, .ref q_numbers, .ref q_stair, .ref q_begins, .ref q_row, .ref q_matrix, .int x_many, .ref q_told, .ref q_across, .int x_known, .ref q_power, .ref q_left, .ref q_minors])), (q_numbers, .inl (k_numbers, 16, .inl w_10))] H := hP
    replace hD : va_D A [(q_this, .inr (4, [.int x_code, .int x_elements, .ref q_numbers, .ref q_stair, .ref q_begins, .ref q_row, .ref q_matrix, .int x_many, .ref q_told, .ref q_across, .int x_known, .ref q_power, .ref q_left, .ref q_minors])), (q_numbers, .inl (k_numbers, 16, .inl w_10))] := hD
    obtain ⟨v_11, ev_11⟩ : ∃ y : Int32, y = u_4 + 1 := ⟨_, rfl⟩
    replace hw := hw v_11 ev_11
    refine lv_iinc (v := v_11) (lv' := [(4, .int v_11), (0, .ref q_this), (1, .int u_1), (2, .int u_2), (3, .int u_3)]) hx hb d_MD_multiply_148 hl (k := 4) rfl (by rw [ev_11]; rfl) (by decide) rfl (fun ls hl => ?_)
    refine lv_goto (tgt := 115) hx hb d_MD_multiply_151 (by decide) ?_
    exact hw H locs ls hP hD hS (lv_sub hl [1, 2, 3, 4, 0] rfl)
def wp_MD_multiply_60b (x_code : Int32) (x_elements : Int32) (x_many : Int32) (x_known : Int32) (x_numbers : Nat → Int32) (u_1 : Int32) (u_2 : Int32) (u_3 : Int32) (post : Int32 → Int32 → Int32 → (Nat → Int32) → Prop)  (P : Int32 → Prop) (u_4 : Int32) : Prop := (4 ≤ u_4 → (wp_MD_multiply_115 x_code x_elements x_many x_known u_1 u_2 u_3 post x_numbers 0)) ∧ (¬ 4 ≤ u_4 → (vp_in ((4 * u_1) + u_4) 16 ∧ (vp_in ((4 * u_2) + u_4) 16 ∧ (wp_MD_in (((x_numbers ((4 * u_1) + u_4).toNatClampNeg) + (u_3 * (x_numbers ((4 * u_2) + u_4).toNatClampNeg))).toInt64) (-5) 5 (fun (r_14 : Int32) => ((¬ r_14 = 0 → (∀ v_16 : Int32, v_16 = u_4 + 1 → (P v_16))) ∧ (r_14 = 0 → (post 0 x_code x_known x_numbers))))))))
def wp_MD_multiply_60 (x_code : Int32) (x_elements : Int32) (x_many : Int32) (x_known : Int32) (x_numbers : Nat → Int32) (u_1 : Int32) (u_2 : Int32) (u_3 : Int32) (post : Int32 → Int32 → Int32 → (Nat → Int32) → Prop)  (u_4 : Int32) : Prop := ∀ P : Int32 → Prop, (∀ (u_4 : Int32), wp_MD_multiply_60b x_code x_elements x_many x_known x_numbers u_1 u_2 u_3 post P u_4 → P u_4) → P u_4
set_option maxHeartbeats 4000000 in
set_option maxRecDepth 100000 in
theorem k_MD_multiply_60 {p : Program} {l : Launch} {e : Env} {s : State} {m : MethodId} {args : Array Value} {below : List Frame} {meth : Method} {c : Code} {dC : Nat → ClassId} {dI : Nat → Nat → Nat} {A : Nat → Prop} {q_this q_numbers q_stair q_begins q_row q_matrix q_told q_across q_power q_left q_minors : Nat} {k_numbers : ClassId} {x_code : Int32} {x_elements : Int32} {x_many : Int32} {x_known : Int32} {x_numbers : Nat → Int32} {u_1 : Int32} {u_2 : Int32} {u_3 : Int32} {post : Int32 → Int32 → Int32 → (Nat → Int32) → Prop}  (C0 : cx_MD_multiply p s m args meth c) (hA : ∀ q : Nat, s.heap.size ≤ q → A q) (hK : va_K (dC, dI) zz_cl [(k_numbers, .int)] s) {u_4 : Int32} (hw : wp_MD_multiply_60 x_code x_elements x_many x_known x_numbers u_1 u_2 u_3 post u_4) {H : Heap} {locs : List Loc} {ls : Array Slot} (hP : va_P (dC, dI) zz_cl [(q_this, .inr (4, [.int x_code, .int x_elements, .ref q_numbers, .ref q_stair, .ref q_begins, .ref q_row, .ref q_matrix, .int x_many, .ref q_told, .ref q_across, .int x_known, .ref q_power, .ref q_left, .ref q_minors])), (q_numbers, .inl (k_numbers, 16, .inl x_numbers))] H) (hD : va_D A [(q_this, .inr (4, [.int x_code, .int x_elements, .ref q_numbers, .ref q_stair, .ref q_begins, .ref q_row, .ref q_matrix, .int x_many, .ref q_told, .ref q_across, .int x_known, .ref q_power, .ref q_left, .ref q_minors])), (q_numbers, .inl (k_numbers, 16, .inl x_numbers))]) (hS : va_S A s.heap H locs) (hl : lv_has ls 5 [(0, .ref q_this), (1, .int u_1), (2, .int u_2), (3, .int u_3), (4, .int u_4)]) : W p l e rm_MD_multiply s m args below meth c H locs 0 0 (MQ below (qz_MD_multiply dC dI q_this q_numbers q_stair q_begins q_row q_matrix q_told q_across q_power q_left q_minors k_numbers x_elements x_many post A) args s 0 0 A) (F0 m 60 ls []) := by
  have C1 := C0
  obtain ⟨hx, hb, hr, hml, hown, hts, hlocks⟩ := C1
  refine hw (fun (u_4 : Int32) => ∀ (H : Heap) (locs : List Loc) (ls : Array Slot), va_P (dC, dI) zz_cl [(q_this, .inr (4, [.int x_code, .int x_elements, .ref q_numbers, .ref q_stair, .ref q_begins, .ref q_row, .ref q_matrix, .int x_many, .ref q_told, .ref q_across, .int x_known, .ref q_power, .ref q_left, .ref q_minors])), (q_numbers, .inl (k_numbers, 16, .inl x_numbers))] H → va_D A [(q_this, .inr (4, [.int x_code, .int x_elements, .ref q_numbers, .ref q_stair, .ref q_begins, .ref q_row, .ref q_matrix, .int x_many, .ref q_told, .ref q_across, .int x_known, .ref q_power, .ref q_left, .ref q_minors])), (q_numbers, .inl (k_numbers, 16, .inl x_numbers))] → va_S A s.heap H locs → lv_has ls 5 [(0, .ref q_this), (1, .int u_1), (2, .int u_2), (3, .int u_3), (4, .int u_4)] → W p l e rm_MD_multiply s m args below meth c H locs 0 0 (MQ below (qz_MD_multiply dC dI q_this q_numbers q_stair q_begins q_row q_matrix q_told q_across q_power q_left q_minors k_numbers x_elements x_many post A) args s 0 0 A) (F0 m 60 ls [])) ?_ H locs ls hP hD hS hl
  clear hw hP hD hS hl H locs ls
  intro u_4 hw H locs ls hP hD hS hl
  unfold wp_MD_multiply_60b at hw
  refine lv_iload hx hb d_MD_multiply_60 (lv_at hl 4 rfl) ?_
  refine lv_iconst (v := 4) hx hb d_MD_multiply_62 (by decide) ?_
  refine lv_icmp_ge (tgt := 112) hx hb d_MD_multiply_63 (by decide) (fun h_4 => ?_) (fun h_4 => ?_)
  · replace hw := hw.1 h_4
    refine lv_iconst (v := 0) hx hb d_MD_multiply_112 (by decide) ?_
    refine lv_istore (lv' := [(4, .int 0), (0, .ref q_this), (1, .int u_1), (2, .int u_2), (3, .int u_3)]) hx hb d_MD_multiply_113 hl (by decide) rfl (fun ls hl => ?_)
    exact k_MD_multiply_115 C0 hA hK hw hP hD hS (lv_sub hl [1, 2, 3, 4, 0] rfl)
  · replace hw := hw.2 h_4
    refine lv_aload_n hx hb d_MD_multiply_66 rfl (lv_at hl 0 rfl) ?_
    refine va_get (D := (dC, dI)) (ci := 4) (v := .ref q_numbers) (C := "StructureRowsModel") (T := T_MD) (N := 14) hx hb hts in_MD hown hK hP 0 rfl rfl 2 (by decide) (hts _ tw_485) (fun _ h9 => h9) rfl d_MD_multiply_67 ?_
    refine lv_iconst (v := 4) hx hb d_MD_multiply_70 (by decide) ?_
    refine lv_iload_n hx hb d_MD_multiply_71 rfl (lv_at hl 1 rfl) ?_
    refine lv_imul hx hb d_MD_multiply_72 ?_
    refine lv_iload hx hb d_MD_multiply_73 (lv_at hl 4 rfl) ?_
    refine lv_iadd hx hb d_MD_multiply_75 ?_
    obtain ⟨h_12, hw⟩ := hw
    refine va_iald hx hb hK hP 1 0 rfl rfl h_12 d_MD_multiply_76 ?_
    refine lv_iload_n hx hb d_MD_multiply_77 rfl (lv_at hl 3 rfl) ?_
    refine lv_aload_n hx hb d_MD_multiply_78 rfl (lv_at hl 0 rfl) ?_
    refine va_get (D := (dC, dI)) (ci := 4) (v := .ref q_numbers) (C := "StructureRowsModel") (T := T_MD) (N := 14) hx hb hts in_MD hown hK hP 0 rfl rfl 2 (by decide) (hts _ tw_485) (fun _ h9 => h9) rfl d_MD_multiply_79 ?_
    refine lv_iconst (v := 4) hx hb d_MD_multiply_82 (by decide) ?_
    refine lv_iload_n hx hb d_MD_multiply_83 rfl (lv_at hl 2 rfl) ?_
    refine lv_imul hx hb d_MD_multiply_84 ?_
    refine lv_iload hx hb d_MD_multiply_85 (lv_at hl 4 rfl) ?_
    refine lv_iadd hx hb d_MD_multiply_87 ?_
    obtain ⟨h_13, hw⟩ := hw
    refine va_iald hx hb hK hP 1 0 rfl rfl h_13 d_MD_multiply_88 ?_
    refine lv_imul hx hb d_MD_multiply_89 ?_
    refine lv_iadd hx hb d_MD_multiply_90 ?_
    refine lv_i2l (v := ((x_numbers ((4 * u_1) + u_4).toNatClampNeg) + (u_3 * (x_numbers ((4 * u_2) + u_4).toNatClampNeg))).toInt64) hx hb d_MD_multiply_91 rfl ?_
    refine lv_ldc2 (v := (-5)) hx hb hown (hts _ tw_547) d_MD_multiply_92 ?_
    refine lv_ldc2 (v := 5) hx hb hown (hts _ tw_548) d_MD_multiply_95 ?_
    refine go_MD_in (wr := [(q_this, .inr (4, [.int x_code, .int x_elements, .ref q_numbers, .ref q_stair, .ref q_begins, .ref q_row, .ref q_matrix, .int x_many, .ref q_told, .ref q_across, .int x_known, .ref q_power, .ref q_left, .ref q_minors])), (q_numbers, .inl (k_numbers, 16, .inl x_numbers))]) ⟨hx, hb, hml, hown, hts⟩ (zz_cwS 3 hts tw_545 tw_543 tw_544 tw_35 ⟨by decide, by decide, by decide +kernel⟩ ⟨Nat.le_of_ble_eq_true rfl, Nat.le_of_ble_eq_true rfl⟩) hK hP hD hS hA [] [0, 1] [] rfl rfl (by decide) rfl (by decide) (by decide) rfl hw hl.1 (Nat.le_of_ble_eq_true rfl) d_MD_multiply_98 ⟨Nat.le_of_ble_eq_true rfl, Nat.le_of_ble_eq_true rfl⟩ (fun r_14 H locs hw hP hD hS => ?_)
    replace hP : va_P (dC, dI) zz_cl [(q_this, .inr (4, [.int x_code, .int x_elements, .ref q_numbers, .ref q_stair, .ref q_begins, .ref q_row, .ref q_matrix, .int x_many, .ref q_told, .ref q_across, .int x_known, .ref q_power, .ref q_left, .ref q_minors])), (q_numbers, .inl (k_numbers, 16, .inl x_numbers))] H := hP
    replace hD : va_D A [(q_this, .inr (4, [.int x_code, .int x_elements, .ref q_numbers, .ref q_stair, .ref q_begins, .ref q_row, .ref q_matrix, .int x_many, .ref q_told, .ref q_across, .int x_known, .ref q_power, .ref q_left, .ref q_minors])), (q_numbers, .inl (k_numbers, 16, .inl x_numbers))] := hD
    refine lv_if_ne (tgt := 106) hx hb d_MD_multiply_101 (by decide) (fun h_15 => ?_) (fun h_15 => ?_)
    · replace hw := hw.1 h_15
      obtain ⟨v_16, ev_16⟩ : ∃ y : Int32, y = u_4 + 1 := ⟨_, rfl⟩
      replace hw := hw v_16 ev_16
      refine lv_iinc (v := v_16) (lv' := [(4, .int v_16), (0, .ref q_this), (1, .int u_1), (2, .int u_2), (3, .int u_3)]) hx hb d_MD_multiply_106 hl (k := 4) rfl (by rw [ev_16]; rfl) (by decide) rfl (fun ls hl => ?_)
      refine lv_goto (tgt := 60) hx hb d_MD_multiply_109 (by decide) ?_
      exact hw H locs ls hP hD hS (lv_sub hl [1, 2, 3, 4, 0] rfl)
    · replace hw := hw.2 h_15
      refine lv_iconst (v := 0) hx hb d_MD_multiply_104 (by decide) ?_
      exact W.zret (v := 0) (ty := .boolean) hx hb hr rfl (fun t ht hW => ⟨⟨0, (x_code, x_known, x_numbers), rfl, hw, by rw [ht]; exact hP, va_K.moved hW.alike hK, hD⟩, hS.F ht⟩) hS.2.2 d_MD_multiply_105
def wp_MD_multiply_45 (x_elements : Int32) (x_many : Int32) (u_1 : Int32) (u_2 : Int32) (u_3 : Int32) (post : Int32 → Int32 → Int32 → (Nat → Int32) → Prop)  (x_code : Int32) (x_known : Int32) (x_numbers : Nat → Int32) (t_0 : Int32) : Prop := (t_0 ≤ 0 → (wp_MD_multiply_60 t_0 x_elements x_many x_known x_numbers u_1 u_2 u_3 post 0)) ∧ (¬ t_0 ≤ 0 → (post 0 t_0 x_known x_numbers))
set_option maxHeartbeats 4000000 in
set_option maxRecDepth 100000 in
theorem k_MD_multiply_45 {p : Program} {l : Launch} {e : Env} {s : State} {m : MethodId} {args : Array Value} {below : List Frame} {meth : Method} {c : Code} {dC : Nat → ClassId} {dI : Nat → Nat → Nat} {A : Nat → Prop} {q_this q_numbers q_stair q_begins q_row q_matrix q_told q_across q_power q_left q_minors : Nat} {k_numbers : ClassId} {x_elements : Int32} {x_many : Int32} {u_1 : Int32} {u_2 : Int32} {u_3 : Int32} {post : Int32 → Int32 → Int32 → (Nat → Int32) → Prop}  (C0 : cx_MD_multiply p s m args meth c) (hA : ∀ q : Nat, s.heap.size ≤ q → A q) (hK : va_K (dC, dI) zz_cl [(k_numbers, .int)] s) {x_code : Int32} {x_known : Int32} {x_numbers : Nat → Int32} {t_0 : Int32} (hw : wp_MD_multiply_45 x_elements x_many u_1 u_2 u_3 post x_code x_known x_numbers t_0) {H : Heap} {locs : List Loc} {ls : Array Slot} (hP : va_P (dC, dI) zz_cl [(q_this, .inr (4, [.int x_code, .int x_elements, .ref q_numbers, .ref q_stair, .ref q_begins, .ref q_row, .ref q_matrix, .int x_many, .ref q_told, .ref q_across, .int x_known, .ref q_power, .ref q_left, .ref q_minors])), (q_numbers, .inl (k_numbers, 16, .inl x_numbers))] H) (hD : va_D A [(q_this, .inr (4, [.int x_code, .int x_elements, .ref q_numbers, .ref q_stair, .ref q_begins, .ref q_row, .ref q_matrix, .int x_many, .ref q_told, .ref q_across, .int x_known, .ref q_power, .ref q_left, .ref q_minors])), (q_numbers, .inl (k_numbers, 16, .inl x_numbers))]) (hS : va_S A s.heap H locs) (hl : lv_has ls 5 [(0, .ref q_this), (1, .int u_1), (2, .int u_2), (3, .int u_3)]) : W p l e rm_MD_multiply s m args below meth c H locs 0 0 (MQ below (qz_MD_multiply dC dI q_this q_numbers q_stair q_begins q_row q_matrix q_told q_across q_power q_left q_minors k_numbers x_elements x_many post A) args s 0 0 A) (F0 m 45 ls [.int t_0, .ref q_this]) := by
  have C1 := C0
  obtain ⟨hx, hb, hr, hml, hown, hts, hlocks⟩ := C1
  unfold wp_MD_multiply_45 at hw
  refine va_put (D := (dC, dI)) (ci := 4) (v := .int t_0) (ty := .int) (C := "StructureRowsModel") (T := T_MD) (N := 14) hx hb hts in_MD ty_MD tyok_MD nm_MD hown hK hP hD hS 0 rfl rfl 0 (by decide) (hts _ tw_483) (fun _ h9 => h9) rfl (by decide +kernel) rfl rfl (Nat.le_of_ble_eq_true rfl) d_MD_multiply_45 (fun H locs hP hD hS => ?_)
  replace hP : va_P (dC, dI) zz_cl [(q_this, .inr (4, [.int t_0, .int x_elements, .ref q_numbers, .ref q_stair, .ref q_begins, .ref q_row, .ref q_matrix, .int x_many, .ref q_told, .ref q_across, .int x_known, .ref q_power, .ref q_left, .ref q_minors])), (q_numbers, .inl (k_numbers, 16, .inl x_numbers))] H := hP
  replace hD : va_D A [(q_this, .inr (4, [.int t_0, .int x_elements, .ref q_numbers, .ref q_stair, .ref q_begins, .ref q_row, .ref q_matrix, .int x_many, .ref q_told, .ref q_across, .int x_known, .ref q_power, .ref q_left, .ref q_minors])), (q_numbers, .inl (k_numbers, 16, .inl x_numbers))] := hD
  refine lv_aload_n hx hb d_MD_multiply_48 rfl (lv_at hl 0 rfl) ?_
  refine va_get (D := (dC, dI)) (ci := 4) (v := .int t_0) (C := "StructureRowsModel") (T := T_MD) (N := 14) hx hb hts in_MD hown hK hP 0 rfl rfl 0 (by decide) (hts _ tw_483) (fun _ h9 => h9) rfl d_MD_multiply_49 ?_
  refine lv_if_le (tgt := 57) hx hb d_MD_multiply_52 (by decide) (fun h_3 => ?_) (fun h_3 => ?_)
  · replace hw := hw.1 h_3
    refine lv_iconst (v := 0) hx hb d_MD_multiply_57 (by decide) ?_
    refine lv_istore (lv' := [(4, .int 0), (0, .ref q_this), (1, .int u_1), (2, .int u_2), (3, .int u_3)]) hx hb d_MD_multiply_58 hl (by decide) rfl (fun ls hl => ?_)
    exact k_MD_multiply_60 C0 hA hK hw hP hD hS (lv_sub hl [1, 2, 3, 4, 0] rfl)
  · replace hw := hw.2 h_3
    refine lv_iconst (v := 0) hx hb d_MD_multiply_55 (by decide) ?_
    exact W.zret (v := 0) (ty := .boolean) hx hb hr rfl (fun t ht hW => ⟨⟨0, (t_0, x_known, x_numbers), rfl, hw, by rw [ht]; exact hP, va_K.moved hW.alike hK, hD⟩, hS.F ht⟩) hS.2.2 d_MD_multiply_56
def wp_MD_multiply_17 (x_elements : Int32) (x_many : Int32) (u_1 : Int32) (u_2 : Int32) (u_3 : Int32) (post : Int32 → Int32 → Int32 → (Nat → Int32) → Prop)  (x_code : Int32) (x_known : Int32) (x_numbers : Nat → Int32) : Prop := wp_MD_multiply_45 x_elements x_many u_1 u_2 u_3 post x_code x_known x_numbers 1
set_option maxHeartbeats 4000000 in
set_option maxRecDepth 100000 in
theorem k_MD_multiply_17 {p : Program} {l : Launch} {e : Env} {s : State} {m : MethodId} {args : Array Value} {below : List Frame} {meth : Method} {c : Code} {dC : Nat → ClassId} {dI : Nat → Nat → Nat} {A : Nat → Prop} {q_this q_numbers q_stair q_begins q_row q_matrix q_told q_across q_power q_left q_minors : Nat} {k_numbers : ClassId} {x_elements : Int32} {x_many : Int32} {u_1 : Int32} {u_2 : Int32} {u_3 : Int32} {post : Int32 → Int32 → Int32 → (Nat → Int32) → Prop}  (C0 : cx_MD_multiply p s m args meth c) (hA : ∀ q : Nat, s.heap.size ≤ q → A q) (hK : va_K (dC, dI) zz_cl [(k_numbers, .int)] s) {x_code : Int32} {x_known : Int32} {x_numbers : Nat → Int32} (hw : wp_MD_multiply_17 x_elements x_many u_1 u_2 u_3 post x_code x_known x_numbers) {H : Heap} {locs : List Loc} {ls : Array Slot} (hP : va_P (dC, dI) zz_cl [(q_this, .inr (4, [.int x_code, .int x_elements, .ref q_numbers, .ref q_stair, .ref q_begins, .ref q_row, .ref q_matrix, .int x_many, .ref q_told, .ref q_across, .int x_known, .ref q_power, .ref q_left, .ref q_minors])), (q_numbers, .inl (k_numbers, 16, .inl x_numbers))] H) (hD : va_D A [(q_this, .inr (4, [.int x_code, .int x_elements, .ref q_numbers, .ref q_stair, .ref q_begins, .ref q_row, .ref q_matrix, .int x_many, .ref q_told, .ref q_across, .int x_known, .ref q_power, .ref q_left, .ref q_minors])), (q_numbers, .inl (k_numbers, 16, .inl x_numbers))]) (hS : va_S A s.heap H locs) (hl : lv_has ls 5 [(0, .ref q_this), (1, .int u_1), (2, .int u_2), (3, .int u_3)]) : W p l e rm_MD_multiply s m args below meth c H locs 0 0 (MQ below (qz_MD_multiply dC dI q_this q_numbers q_stair q_begins q_row q_matrix q_told q_across q_power q_left q_minors k_numbers x_elements x_many post A) args s 0 0 A) (F0 m 17 ls [.ref q_this]) := by
  have C1 := C0
  obtain ⟨hx, hb, hr, hml, hown, hts, hlocks⟩ := C1
  unfold wp_MD_multiply_17 at hw
  refine lv_iconst (v := 1) hx hb d_MD_multiply_17 (by decide) ?_
  refine lv_goto (tgt := 45) hx hb d_MD_multiply_18 (by decide) ?_
  exact k_MD_multiply_45 C0 hA hK hw hP hD hS hl
def wp_MD_multiply_40 (x_elements : Int32) (x_many : Int32) (u_1 : Int32) (u_2 : Int32) (u_3 : Int32) (post : Int32 → Int32 → Int32 → (Nat → Int32) → Prop)  (x_code : Int32) (x_known : Int32) (x_numbers : Nat → Int32) : Prop := wp_MD_multiply_45 x_elements x_many u_1 u_2 u_3 post x_code x_known x_numbers 2
set_option maxHeartbeats 4000000 in
set_option maxRecDepth 100000 in
theorem k_MD_multiply_40 {p : Program} {l : Launch} {e : Env} {s : State} {m : MethodId} {args : Array Value} {below : List Frame} {meth : Method} {c : Code} {dC : Nat → ClassId} {dI : Nat → Nat → Nat} {A : Nat → Prop} {q_this q_numbers q_stair q_begins q_row q_matrix q_told q_across q_power q_left q_minors : Nat} {k_numbers : ClassId} {x_elements : Int32} {x_many : Int32} {u_1 : Int32} {u_2 : Int32} {u_3 : Int32} {post : Int32 → Int32 → Int32 → (Nat → Int32) → Prop}  (C0 : cx_MD_multiply p s m args meth c) (hA : ∀ q : Nat, s.heap.size ≤ q → A q) (hK : va_K (dC, dI) zz_cl [(k_numbers, .int)] s) {x_code : Int32} {x_known : Int32} {x_numbers : Nat → Int32} (hw : wp_MD_multiply_40 x_elements x_many u_1 u_2 u_3 post x_code x_known x_numbers) {H : Heap} {locs : List Loc} {ls : Array Slot} (hP : va_P (dC, dI) zz_cl [(q_this, .inr (4, [.int x_code, .int x_elements, .ref q_numbers, .ref q_stair, .ref q_begins, .ref q_row, .ref q_matrix, .int x_many, .ref q_told, .ref q_across, .int x_known, .ref q_power, .ref q_left, .ref q_minors])), (q_numbers, .inl (k_numbers, 16, .inl x_numbers))] H) (hD : va_D A [(q_this, .inr (4, [.int x_code, .int x_elements, .ref q_numbers, .ref q_stair, .ref q_begins, .ref q_row, .ref q_matrix, .int x_many, .ref q_told, .ref q_across, .int x_known, .ref q_power, .ref q_left, .ref q_minors])), (q_numbers, .inl (k_numbers, 16, .inl x_numbers))]) (hS : va_S A s.heap H locs) (hl : lv_has ls 5 [(0, .ref q_this), (1, .int u_1), (2, .int u_2), (3, .int u_3)]) : W p l e rm_MD_multiply s m args below meth c H locs 0 0 (MQ below (qz_MD_multiply dC dI q_this q_numbers q_stair q_begins q_row q_matrix q_told q_across q_power q_left q_minors k_numbers x_elements x_many post A) args s 0 0 A) (F0 m 40 ls [.ref q_this]) := by
  have C1 := C0
  obtain ⟨hx, hb, hr, hml, hown, hts, hlocks⟩ := C1
  unfold wp_MD_multiply_40 at hw
  refine lv_iconst (v := 2) hx hb d_MD_multiply_40 (by decide) ?_
  refine lv_goto (tgt := 45) hx hb d_MD_multiply_41 (by decide) ?_
  exact k_MD_multiply_45 C0 hA hK hw hP hD hS hl
def wp_MD_multiply (x_code : Int32) (x_elements : Int32) (x_many : Int32) (x_known : Int32) (x_numbers : Nat → Int32) (a_0 : Int32) (a_1 : Int32) (a_2 : Int32) (post : Int32 → Int32 → Int32 → (Nat → Int32) → Prop) : Prop := wp_MD_isElement x_code x_elements x_many x_known a_0 (fun (r_1 : Int32) => ((r_1 = 0 → (wp_MD_multiply_17 x_elements x_many a_0 a_1 a_2 post x_code x_known x_numbers)) ∧ (¬ r_1 = 0 → (wp_MD_isElement x_code x_elements x_many x_known a_1 (fun (r_17 : Int32) => ((¬ r_17 = 0 → ((a_0 = a_1 → (wp_MD_multiply_40 x_elements x_many a_0 a_1 a_2 post x_code x_known x_numbers)) ∧ (¬ a_0 = a_1 → (wp_MD_in a_2.toInt64 (-5) 5 (fun (r_20 : Int32) => ((¬ r_20 = 0 → (wp_MD_multiply_45 x_elements x_many a_0 a_1 a_2 post x_code x_known x_numbers 0)) ∧ (r_20 = 0 → (wp_MD_multiply_40 x_elements x_many a_0 a_1 a_2 post x_code x_known x_numbers)))))))) ∧ (r_17 = 0 → (wp_MD_multiply_17 x_elements x_many a_0 a_1 a_2 post x_code x_known x_numbers))))))))
set_option maxHeartbeats 4000000 in
set_option maxRecDepth 100000 in
theorem c_MD_multiply (l : Launch) (dC : Nat → ClassId) (dI : Nat → Nat → Nat) (q_this q_numbers q_stair q_begins q_row q_matrix q_told q_across q_power q_left q_minors : Nat) (k_numbers : ClassId) (sz : Nat) (x_code : Int32) (x_elements : Int32) (x_many : Int32) (x_known : Int32) (x_numbers : Nat → Int32) (a_0 : Int32) (a_1 : Int32) (a_2 : Int32) (post : Int32 → Int32 → Int32 → (Nat → Int32) → Prop) (hw : wp_MD_multiply x_code x_elements x_many x_known x_numbers a_0 a_1 a_2 post) : Met l y_MD_multiply (zz_w y_MD_multiply b_MD_multiply 5 (some .boolean)) rm_MD_multiply (va_Pc [.ref q_this, .int a_0, .int a_1, .int a_2] (fun U => U.heap.size = sz ∧ va_P (dC, dI) zz_cl [(q_this, .inr (4, [.int x_code, .int x_elements, .ref q_numbers, .ref q_stair, .ref q_begins, .ref q_row, .ref q_matrix, .int x_many, .ref q_told, .ref q_across, .int x_known, .ref q_power, .ref q_left, .ref q_minors])), (q_numbers, .inl (k_numbers, 16, .inl x_numbers))] U.heap ∧ va_K (dC, dI) zz_cl [(k_numbers, .int)] U ∧ va_D (fun _ => True) [(q_this, .inr (4, [.int x_code, .int x_elements, .ref q_numbers, .ref q_stair, .ref q_begins, .ref q_row, .ref q_matrix, .int x_many, .ref q_told, .ref q_across, .int x_known, .ref q_power, .ref q_left, .ref q_minors])), (q_numbers, .inl (k_numbers, 16, .inl x_numbers))])) (qz_MD_multiply dC dI q_this q_numbers q_stair q_begins q_row q_matrix q_told q_across q_power q_left q_minors k_numbers x_elements x_many post (va_A [(q_this, .inr (4, [.int x_code, .int x_elements, .ref q_numbers, .ref q_stair, .ref q_begins, .ref q_row, .ref q_matrix, .int x_many, .ref q_told, .ref q_across, .int x_known, .ref q_power, .ref q_left, .ref q_minors])), (q_numbers, .inl (k_numbers, 16, .inl x_numbers))] sz)) 0 0 (va_A [(q_this, .inr (4, [.int x_code, .int x_elements, .ref q_numbers, .ref q_stair, .ref q_begins, .ref q_row, .ref q_matrix, .int x_many, .ref q_told, .ref q_across, .int x_known, .ref q_power, .ref q_left, .ref q_minors])), (q_numbers, .inl (k_numbers, 16, .inl x_numbers))] sz) := by
  refine Met.ofW (cc := b_MD_multiply) (maxL := 5) (ret := (some .boolean)) (by decide) rfl ?_
  intro p e s m args below meth c s₁ B hml hv
  obtain ⟨rfl, hsz, hP, hK, hD0⟩ := hv
  have hx := B.exec
  have hb := B.bytes
  have hr := B.returns
  have hts0 := atoms_spec (ws := (zz_w y_MD_multiply b_MD_multiply 5 (some .boolean))) B.pre
  have hts : ∀ w ∈ zz_GW, w.before _ s = true := fun w h => hts0 w (List.mem_cons_of_mem _ h)
  clear hts0
  have hown : s.vm.findClass "StructureRowsModel" = some m.cls := findClass_of_methodNamed B.named
  have hlocks := B.notSynchronized
  have C0 : cx_MD_multiply p s m _ meth c := ⟨hx, hb, hr, hml, hown, hts, hlocks⟩
  subst hsz
  have hD := hD0.self (sz := s.heap.size)
  generalize hAe : va_A [(q_this, .inr (4, [.int x_code, .int x_elements, .ref q_numbers, .ref q_stair, .ref q_begins, .ref q_row, .ref q_matrix, .int x_many, .ref q_told, .ref q_across, .int x_known, .ref q_power, .ref q_left, .ref q_minors])), (q_numbers, .inl (k_numbers, 16, .inl x_numbers))] s.heap.size = A at hD ⊢
  have hA : ∀ q : Nat, s.heap.size ≤ q → A q := fun q h => by rw [← hAe]; exact Or.inr h
  clear hAe hD0
  have hS : va_S A s.heap s.heap [] := va_S.rf
  have hl := lv_entry ([.ref q_this, .int a_0, .int a_1, .int a_2]) (n := 5) (Nat.le_of_ble_eq_true rfl)
  rw [lg_entry_eq]
  generalize (lg_sl ([.ref q_this, .int a_0, .int a_1, .int a_2]) ++ List.replicate (5 - (lg_sl ([.ref q_this, .int a_0, .int a_1, .int a_2])).length) Slot.unset).toArray = ls at hl ⊢
  replace hl : lv_has ls 5 [(0, .ref q_this), (1, .int a_0), (2, .int a_1), (3, .int a_2)] := hl
  unfold wp_MD_multiply at hw
  change W p l e rm_MD_multiply s m _ below meth c s.heap [] 0 0 _ _
  refine lv_aload_n hx hb d_MD_multiply_0 rfl (lv_at hl 0 rfl) ?_
  refine lv_aload_n hx hb d_MD_multiply_1 rfl (lv_at hl 0 rfl) ?_
  refine lv_iload_n hx hb d_MD_multiply_2 rfl (lv_at hl 1 rfl) ?_
  refine go_MD_isElement (wr := [(q_numbers, .inl (k_numbers, 16, .inl x_numbers))]) ⟨hx, hb, hml, hown, hts⟩ (zz_cwV 1 hts tw_542 tw_539 tw_541 tw_16 tw_35 ⟨by decide, by decide, by decide +kernel⟩ ⟨Nat.le_of_ble_eq_true rfl, Nat.le_of_ble_eq_true rfl⟩) hK hP hD hS hA [0] [1] [] rfl rfl (by decide) rfl (by decide) (by decide) rfl hw hl.1 (Nat.le_of_ble_eq_true rfl) d_MD_multiply_3 ⟨Nat.le_of_ble_eq_true rfl, Nat.le_of_ble_eq_true rfl⟩ (fun r_1 H locs hw hP hD hS => ?_)
  replace hP : va_P (dC, dI) zz_cl [(q_numbers, .inl (k_numbers, 16, .inl x_numbers)), (q_this, .inr (4, [.int x_code, .int x_elements, .ref q_numbers, .ref q_stair, .ref q_begins, .ref q_row, .ref q_matrix, .int x_many, .ref q_told, .ref q_across, .int x_known, .ref q_power, .ref q_left, .ref q_minors]))] H := hP
  replace hD : va_D A [(q_numbers, .inl (k_numbers, 16, .inl x_numbers)), (q_this, .inr (4, [.int x_code, .int x_elements, .ref q_numbers, .ref q_stair, .ref q_begins, .ref q_row, .ref q_matrix, .int x_many, .ref q_told, .ref q_across, .int x_known, .ref q_power, .ref q_left, .ref q_minors]))] := hD
  refine lv_if_eq (tgt := 17) hx hb d_MD_multiply_6 (by decide) (fun h_2 => ?_) (fun h_2 => ?_)
  · replace hw := hw.1 h_2
    exact k_MD_multiply_17 C0 hA hK hw (hP.sub [1, 0] rfl) (hD.sub [1, 0] (by decide) rfl) hS hl
  · replace hw := hw.2 h_2
    refine lv_aload_n hx hb d_MD_multiply_9 rfl (lv_at hl 0 rfl) ?_
    refine lv_iload_n hx hb d_MD_multiply_10 rfl (lv_at hl 2 rfl) ?_
    refine go_MD_isElement (wr := [(q_numbers, .inl (k_numbers, 16, .inl x_numbers))]) ⟨hx, hb, hml, hown, hts⟩ (zz_cwV 1 hts tw_542 tw_539 tw_541 tw_16 tw_35 ⟨by decide, by decide, by decide +kernel⟩ ⟨Nat.le_of_ble_eq_true rfl, Nat.le_of_ble_eq_true rfl⟩) hK hP hD hS hA [1] [0] [] rfl rfl (by decide) rfl (by decide) (by decide) rfl hw hl.1 (Nat.le_of_ble_eq_true rfl) d_MD_multiply_11 ⟨Nat.le_of_ble_eq_true rfl, Nat.le_of_ble_eq_true rfl⟩ (fun r_17 H locs hw hP hD hS => ?_)
    replace hP : va_P (dC, dI) zz_cl [(q_numbers, .inl (k_numbers, 16, .inl x_numbers)), (q_this, .inr (4, [.int x_code, .int x_elements, .ref q_numbers, .ref q_stair, .ref q_begins, .ref q_row, .ref q_matrix, .int x_many, .ref q_told, .ref q_across, .int x_known, .ref q_power, .ref q_left, .ref q_minors]))] H := hP
    replace hD : va_D A [(q_numbers, .inl (k_numbers, 16, .inl x_numbers)), (q_this, .inr (4, [.int x_code, .int x_elements, .ref q_numbers, .ref q_stair, .ref q_begins, .ref q_row, .ref q_matrix, .int x_many, .ref q_told, .ref q_across, .int x_known, .ref q_power, .ref q_left, .ref q_minors]))] := hD
    refine lv_if_ne (tgt := 21) hx hb d_MD_multiply_14 (by decide) (fun h_18 => ?_) (fun h_18 => ?_)
    · replace hw := hw.1 h_18
      refine lv_iload_n hx hb d_MD_multiply_21 rfl (lv_at hl 1 rfl) ?_
      refine lv_iload_n hx hb d_MD_multiply_22 rfl (lv_at hl 2 rfl) ?_
      refine lv_icmp_eq (tgt := 40) hx hb d_MD_multiply_23 (by decide) (fun h_19 => ?_) (fun h_19 => ?_)
      · replace hw := hw.1 h_19
        exact k_MD_multiply_40 C0 hA hK hw (hP.sub [1, 0] rfl) (hD.sub [1, 0] (by decide) rfl) hS hl
      · replace hw := hw.2 h_19
        refine lv_iload_n hx hb d_MD_multiply_26 rfl (lv_at hl 3 rfl) ?_
        refine lv_i2l (v := a_2.toInt64) hx hb d_MD_multiply_27 rfl ?_
        refine lv_ldc2 (v := (-5)) hx hb hown (hts _ tw_547) d_MD_multiply_28 ?_
        refine lv_ldc2 (v := 5) hx hb hown (hts _ tw_548) d_MD_multiply_31 ?_
        refine go_MD_in (wr := [(q_numbers, .inl (k_numbers, 16, .inl x_numbers)), (q_this, .inr (4, [.int x_code, .int x_elements, .ref q_numbers, .ref q_stair, .ref q_begins, .ref q_row, .ref q_matrix, .int x_many, .ref q_told, .ref q_across, .int x_known, .ref q_power, .ref q_left, .ref q_minors]))]) ⟨hx, hb, hml, hown, hts⟩ (zz_cwS 3 hts tw_545 tw_543 tw_544 tw_35 ⟨by decide, by decide, by decide +kernel⟩ ⟨Nat.le_of_ble_eq_true rfl, Nat.le_of_ble_eq_true rfl⟩) hK hP hD hS hA [] [0, 1] [] rfl rfl (by decide) rfl (by decide) (by decide) rfl hw hl.1 (Nat.le_of_ble_eq_true rfl) d_MD_multiply_34 ⟨Nat.le_of_ble_eq_true rfl, Nat.le_of_ble_eq_true rfl⟩ (fun r_20 H locs hw hP hD hS => ?_)
        replace hP : va_P (dC, dI) zz_cl [(q_numbers, .inl (k_numbers, 16, .inl x_numbers)), (q_this, .inr (4, [.int x_code, .int x_elements, .ref q_numbers, .ref q_stair, .ref q_begins, .ref q_row, .ref q_matrix, .int x_many, .ref q_told, .ref q_across, .int x_known, .ref q_power, .ref q_left, .ref q_minors]))] H := hP
        replace hD : va_D A [(q_numbers, .inl (k_numbers, 16, .inl x_numbers)), (q_this, .inr (4, [.int x_code, .int x_elements, .ref q_numbers, .ref q_stair, .ref q_begins, .ref q_row, .ref q_matrix, .int x_many, .ref q_told, .ref q_across, .int x_known, .ref q_power, .ref q_left, .ref q_minors]))] := hD
        refine lv_if_ne (tgt := 44) hx hb d_MD_multiply_37 (by decide) (fun h_21 => ?_) (fun h_21 => ?_)
        · replace hw := hw.1 h_21
          refine lv_iconst (v := 0) hx hb d_MD_multiply_44 (by decide) ?_
          exact k_MD_multiply_45 C0 hA hK hw (hP.sub [1, 0] rfl) (hD.sub [1, 0] (by decide) rfl) hS hl
        · replace hw := hw.2 h_21
          exact k_MD_multiply_40 C0 hA hK hw (hP.sub [1, 0] rfl) (hD.sub [1, 0] (by decide) rfl) hS hl
    · replace hw := hw.2 h_18
      exact k_MD_multiply_17 C0 hA hK hw (hP.sub [1, 0] rfl) (hD.sub [1, 0] (by decide) rfl) hS hl
set_option maxHeartbeats 4000000 in
set_option maxRecDepth 100000 in
theorem go_MD_multiply {p : Program} {l : Launch} {e : Env} {R : Room} {s : State} {m : MethodId} {args : Array Value} {below : List Frame} {meth : Method} {c : Code} {H : Heap} {locs : List Loc} {cells slots : Nat} {Q : State → Prop} {cc : ByteArray} {nL : Nat} {Ts : List Cond} {own : String} {index : Nat} {A0 : Nat → Prop} {H0 : Heap} {dC : Nat → ClassId} {dI : Nat → Nat → Nat} {ws wr : va_W} {tys : List (ClassId × FieldType)} {q_this q_numbers q_stair q_begins q_row q_matrix q_told q_across q_power q_left q_minors : Nat} {k_numbers : ClassId} {x_code : Int32} {x_elements : Int32} {x_many : Int32} {x_known : Int32} {x_numbers : Nat → Int32} {a_0 : Int32} {a_1 : Int32} {a_2 : Int32} {post : Int32 → Int32 → Int32 → (Nat → Int32) → Prop} (S : CallFix p m c cc nL s args Ts own) (cw : CallW R s args own "StructureRowsModel" index y_MD_multiply b_MD_multiply 5 (some .boolean) (zz_w y_MD_multiply b_MD_multiply 5 (some .boolean)) rm_MD_multiply 0 0 3) (hK : va_K (dC, dI) zz_cl tys s) (hP : va_P (dC, dI) zz_cl ws H) (hD : va_D A0 ws) (hS : va_S A0 H0 H locs) (hA : ∀ q, H0.size ≤ q → A0 q) (isC isR kt : List Nat) (h1 : isC.filterMap (fun i => ws[i]?) = [(q_this, .inr (4, [.int x_code, .int x_elements, .ref q_numbers, .ref q_stair, .ref q_begins, .ref q_row, .ref q_matrix, .int x_many, .ref q_told, .ref q_across, .int x_known, .ref q_power, .ref q_left, .ref q_minors])), (q_numbers, .inl (k_numbers, 16, .inl x_numbers))]) (h2 : isC.map (fun i => ws[i]?) = ([(q_this, .inr (4, [.int x_code, .int x_elements, .ref q_numbers, .ref q_stair, .ref q_begins, .ref q_row, .ref q_matrix, .int x_many, .ref q_told, .ref q_across, .int x_known, .ref q_power, .ref q_left, .ref q_minors])), (q_numbers, .inl (k_numbers, 16, .inl x_numbers))] : va_W).map some) (h3 : va_nd isC = true) (h4 : isR.map (fun i => ws[i]?) = wr.map some) (h5 : va_nd isR = true) (h6 : ∀ i ∈ isR, i ∉ isC) (h7 : kt.filterMap (fun i => tys[i]?) = [(k_numbers, .int)]) (hw : wp_MD_multiply x_code x_elements x_many x_known x_numbers a_0 a_1 a_2 post) {pc : Nat} {ls : Array Slot} {rest : List Value} (hsize : ls.size = nL) (hrest : (rest.map fun v => v.category).sum ≤ 8) (hdg : decode cc pc = .ok (.invokevirtual index, 3)) (hf : cells + 0 ≤ R.cells ∧ slots + 0 ≤ R.slots) (kk : ∀ (r : Int32) (m0 : Int32) (m1 : Int32) (m2 : Nat → Int32) (H1 : Heap) (locs1 : List Loc), post r m0 m1 m2 → va_P (dC, dI) zz_cl (wr ++ [(q_this, .inr (4, [.int m0, .int x_elements, .ref q_numbers, .ref q_stair, .ref q_begins, .ref q_row, .ref q_matrix, .int x_many, .ref q_told, .ref q_across, .int m1, .ref q_power, .ref q_left, .ref q_minors])), (q_numbers, .inl (k_numbers, 16, .inl m2))]) H1 → va_D A0 (wr ++ [(q_this, .inr (4, [.int m0, .int x_elements, .ref q_numbers, .ref q_stair, .ref q_begins, .ref q_row, .ref q_matrix, .int x_many, .ref q_told, .ref q_across, .int m1, .ref q_power, .ref q_left, .ref q_minors])), (q_numbers, .inl (k_numbers, 16, .inl m2))]) → va_S A0 H0 H1 locs1 → W p l e R s m args below meth c H1 locs1 (cells + 0) (slots + 0) Q (F0 m (pc + 3) ls (.int r :: rest))) : W p l e R s m args below meth c H locs cells slots Q (F0 m pc ls (.int a_2 :: .int a_1 :: .int a_0 :: .ref q_this :: rest)) := by
  have hPc := hP.sub (ws' := [(q_this, .inr (4, [.int x_code, .int x_elements, .ref q_numbers, .ref q_stair, .ref q_begins, .ref q_row, .ref q_matrix, .int x_many, .ref q_told, .ref q_across, .int x_known, .ref q_power, .ref q_left, .ref q_minors])), (q_numbers, .inl (k_numbers, 16, .inl x_numbers))]) isC h1
  have hDc := hD.sub (ws' := [(q_this, .inr (4, [.int x_code, .int x_elements, .ref q_numbers, .ref q_stair, .ref q_begins, .ref q_row, .ref q_matrix, .int x_many, .ref q_told, .ref q_across, .int x_known, .ref q_power, .ref q_left, .ref q_minors])), (q_numbers, .inl (k_numbers, 16, .inl x_numbers))]) isC h3 h2
  have hKc := hK.sub (tys' := [(k_numbers, .int)]) kt h7
  have hFc := va_free (wc := [(q_this, .inr (4, [.int x_code, .int x_elements, .ref q_numbers, .ref q_stair, .ref q_begins, .ref q_row, .ref q_matrix, .int x_many, .ref q_told, .ref q_across, .int x_known, .ref q_power, .ref q_left, .ref q_minors])), (q_numbers, .inl (k_numbers, 16, .inl x_numbers))]) hD hS hA isC h2
  refine va_calli (va_runV (As := [.int a_0, .int a_1, .int a_2]) (rest := rest) S (c_MD_multiply l dC dI q_this q_numbers q_stair q_begins q_row q_matrix q_told q_across q_power q_left q_minors k_numbers H.size x_code x_elements x_many x_known x_numbers a_0 a_1 a_2 post hw) cw ⟨zz_blind, va_recv hKc hPc (ci := 4) (q0 := 0) rfl rfl, fun U hU hW => ⟨rfl, by rw [hU], by rw [hU]; exact hPc, va_K.moved hW.alike hKc, hDc.weaken (fun _ _ _ _ => trivial)⟩⟩ rfl rfl hsize rfl (lv_room hrest) hdg hf) hS (fun q _ h => hFc q h) hFc (fun r u t H1 locs ht hvm hw hB hz1 hk1 hS => ?_)
  obtain ⟨hP1, hK1, hD1⟩ := hB
  rw [ht] at hP1
  obtain ⟨hP2, hD2⟩ := va_join (wr := wr) (w1 := [(q_this, .inr (4, [.int u.1, .int x_elements, .ref q_numbers, .ref q_stair, .ref q_begins, .ref q_row, .ref q_matrix, .int x_many, .ref q_told, .ref q_across, .int u.2.1, .ref q_power, .ref q_left, .ref q_minors])), (q_numbers, .inl (k_numbers, 16, .inl u.2.2))]) hP hD isC isR h2 h4 h5 h6 hk1 hFc hP1 hD1
  exact kk r u.1 u.2.1 u.2.2 H1 locs hw hP2 hD2 hS
abbrev rm_MD_count : Room := { frames := 0, cells := 0, slots := 0, locals := 0 }
abbrev qz_MD_count (dC : Nat → ClassId) (dI : Nat → Nat → Nat) (q_this q_numbers q_stair q_begins q_row q_matrix q_told q_across q_power q_left q_minors : Nat) (x_elements : Int32) (x_many : Int32) (x_known : Int32) (post : Int32 → Int32 → Prop) (A : Nat → Prop) : Array Value → State → Outcome → State → Prop := va_Qi (fun (r : Int32) (u : Int32) => post r u) (fun (u : Int32) (t : State) => va_P (dC, dI) zz_cl [(q_this, .inr (4, [.int u, .int x_elements, .ref q_numbers, .ref q_stair, .ref q_begins, .ref q_row, .ref q_matrix, .int x_many, .ref q_told, .ref q_across, .int x_known, .ref q_power, .ref q_left, .ref q_minors]))] t.heap ∧ va_K (dC, dI) zz_cl [] t ∧ va_D A [(q_this, .inr (4, [.int u, .int x_elements, .ref q_numbers, .ref q_stair, .ref q_begins, .ref q_row, .ref q_matrix, .int x_many, .ref q_told, .ref q_across, .int x_known, .ref q_power, .ref q_left, .ref q_minors]))]) A
def cx_MD_count (p : Program) (s : State) (m : MethodId) (args : Array Value) (meth : Method) (c : Code) : Prop := p.tables.exec = Jvm.exec ∧ c.code = b_MD_count ∧ meth.sig.returnType = (some .int) ∧ c.maxLocals = 1 ∧ s.vm.findClass "StructureRowsModel" = some m.cls ∧ (∀ w ∈ zz_GW, w.before args s = true) ∧ meth.locks = false
def wp_MD_count (x_code : Int32) (x_elements : Int32) (x_many : Int32) (x_known : Int32)  (post : Int32 → Int32 → Prop) : Prop := post x_elements 0
set_option maxHeartbeats 4000000 in
set_option maxRecDepth 100000 in
theorem c_MD_count (l : Launch) (dC : Nat → ClassId) (dI : Nat → Nat → Nat) (q_this q_numbers q_stair q_begins q_row q_matrix q_told q_across q_power q_left q_minors : Nat) (sz : Nat) (x_code : Int32) (x_elements : Int32) (x_many : Int32) (x_known : Int32)  (post : Int32 → Int32 → Prop) (hw : wp_MD_count x_code x_elements x_many x_known post) : Met l y_MD_count (zz_w y_MD_count b_MD_count 1 (some .int)) rm_MD_count (va_Pc [.ref q_this] (fun U => U.heap.size = sz ∧ va_P (dC, dI) zz_cl [(q_this, .inr (4, [.int x_code, .int x_elements, .ref q_numbers, .ref q_stair, .ref q_begins, .ref q_row, .ref q_matrix, .int x_many, .ref q_told, .ref q_across, .int x_known, .ref q_power, .ref q_left, .ref q_minors]))] U.heap ∧ va_K (dC, dI) zz_cl [] U ∧ va_D (fun _ => True) [(q_this, .inr (4, [.int x_code, .int x_elements, .ref q_numbers, .ref q_stair, .ref q_begins, .ref q_row, .ref q_matrix, .int x_many, .ref q_told, .ref q_across, .int x_known, .ref q_power, .ref q_left, .ref q_minors]))])) (qz_MD_count dC dI q_this q_numbers q_stair q_begins q_row q_matrix q_told q_across q_power q_left q_minors x_elements x_many x_known post (va_A [(q_this, .inr (4, [.int x_code, .int x_elements, .ref q_numbers, .ref q_stair, .ref q_begins, .ref q_row, .ref q_matrix, .int x_many, .ref q_told, .ref q_across, .int x_known, .ref q_power, .ref q_left, .ref q_minors]))] sz)) 0 0 (va_A [(q_this, .inr (4, [.int x_code, .int x_elements, .ref q_numbers, .ref q_stair, .ref q_begins, .ref q_row, .ref q_matrix, .int x_many, .ref q_told, .ref q_across, .int x_known, .ref q_power, .ref q_left, .ref q_minors]))] sz) := by
  refine Met.ofW (cc := b_MD_count) (maxL := 1) (ret := (some .int)) (by decide) rfl ?_
  intro p e s m args below meth c s₁ B hml hv
  obtain ⟨rfl, hsz, hP, hK, hD0⟩ := hv
  have hx := B.exec
  have hb := B.bytes
  have hr := B.returns
  have hts0 := atoms_spec (ws := (zz_w y_MD_count b_MD_count 1 (some .int))) B.pre
  have hts : ∀ w ∈ zz_GW, w.before _ s = true := fun w h => hts0 w (List.mem_cons_of_mem _ h)
  clear hts0
  have hown : s.vm.findClass "StructureRowsModel" = some m.cls := findClass_of_methodNamed B.named
  have hlocks := B.notSynchronized
  have C0 : cx_MD_count p s m _ meth c := ⟨hx, hb, hr, hml, hown, hts, hlocks⟩
  subst hsz
  have hD := hD0.self (sz := s.heap.size)
  generalize hAe : va_A [(q_this, .inr (4, [.int x_code, .int x_elements, .ref q_numbers, .ref q_stair, .ref q_begins, .ref q_row, .ref q_matrix, .int x_many, .ref q_told, .ref q_across, .int x_known, .ref q_power, .ref q_left, .ref q_minors]))] s.heap.size = A at hD ⊢
  have hA : ∀ q : Nat, s.heap.size ≤ q → A q := fun q h => by rw [← hAe]; exact Or.inr h
  clear hAe hD0
  have hS : va_S A s.heap s.heap [] := va_S.rf
  have hl := lv_entry ([.ref q_this]) (n := 1) (Nat.le_of_ble_eq_true rfl)
  rw [lg_entry_eq]
  generalize (lg_sl ([.ref q_this]) ++ List.replicate (1 - (lg_sl ([.ref q_this])).length) Slot.unset).toArray = ls at hl ⊢
  replace hl : lv_has ls 1 [(0, .ref q_this)] := hl
  unfold wp_MD_count at hw
  change W p l e rm_MD_count s m _ below meth c s.heap [] 0 0 _ _
  refine lv_aload_n hx hb d_MD_count_0 rfl (lv_at hl 0 rfl) ?_
  refine lv_iconst (v := 0) hx hb d_MD_count_1 (by decide) ?_
  refine va_put (D := (dC, dI)) (ci := 4) (v := .int 0) (ty := .int) (C := "StructureRowsModel") (T := T_MD) (N := 14) hx hb hts in_MD ty_MD tyok_MD nm_MD hown hK hP hD hS 0 rfl rfl 0 (by decide) (hts _ tw_483) (fun _ h9 => h9) rfl (by decide +kernel) rfl rfl (Nat.le_of_ble_eq_true rfl) d_MD_count_2 (fun H locs hP hD hS => ?_)
  replace hP : va_P (dC, dI) zz_cl [(q_this, .inr (4, [.int 0, .int x_elements, .ref q_numbers, .ref q_stair, .ref q_begins, .ref q_row, .ref q_matrix, .int x_many, .ref q_told, .ref q_across, .int x_known, .ref q_power, .ref q_left, .ref q_minors]))] H := hP
  replace hD : va_D A [(q_this, .inr (4, [.int 0, .int x_elements, .ref q_numbers, .ref q_stair, .ref q_begins, .ref q_row, .ref q_matrix, .int x_many, .ref q_told, .ref q_across, .int x_known, .ref q_power, .ref q_left, .ref q_minors]))] := hD
  refine lv_aload_n hx hb d_MD_count_5 rfl (lv_at hl 0 rfl) ?_
  refine va_get (D := (dC, dI)) (ci := 4) (v := .int x_elements) (C := "StructureRowsModel") (T := T_MD) (N := 14) hx hb hts in_MD hown hK hP 0 rfl rfl 1 (by decide) (hts _ tw_484) (fun _ h9 => h9) rfl d_MD_count_6 ?_
  exact W.iret (v := x_elements) hx hb hr (fun t ht hW => ⟨⟨x_elements, 0, rfl, hw, by rw [ht]; exact hP, va_K.moved hW.alike hK, hD⟩, hS.F ht⟩) hS.2.2 d_MD_count_9
set_option maxHeartbeats 4000000 in
set_option maxRecDepth 100000 in
theorem go_MD_count {p : Program} {l : Launch} {e : Env} {R : Room} {s : State} {m : MethodId} {args : Array Value} {below : List Frame} {meth : Method} {c : Code} {H : Heap} {locs : List Loc} {cells slots : Nat} {Q : State → Prop} {cc : ByteArray} {nL : Nat} {Ts : List Cond} {own : String} {index : Nat} {A0 : Nat → Prop} {H0 : Heap} {dC : Nat → ClassId} {dI : Nat → Nat → Nat} {ws wr : va_W} {tys : List (ClassId × FieldType)} {q_this q_numbers q_stair q_begins q_row q_matrix q_told q_across q_power q_left q_minors : Nat} {x_code : Int32} {x_elements : Int32} {x_many : Int32} {x_known : Int32}  {post : Int32 → Int32 → Prop} (S : CallFix p m c cc nL s args Ts own) (cw : CallW R s args own "StructureRowsModel" index y_MD_count b_MD_count 1 (some .int) (zz_w y_MD_count b_MD_count 1 (some .int)) rm_MD_count 0 0 0) (hK : va_K (dC, dI) zz_cl tys s) (hP : va_P (dC, dI) zz_cl ws H) (hD : va_D A0 ws) (hS : va_S A0 H0 H locs) (hA : ∀ q, H0.size ≤ q → A0 q) (isC isR kt : List Nat) (h1 : isC.filterMap (fun i => ws[i]?) = [(q_this, .inr (4, [.int x_code, .int x_elements, .ref q_numbers, .ref q_stair, .ref q_begins, .ref q_row, .ref q_matrix, .int x_many, .ref q_told, .ref q_across, .int x_known, .ref q_power, .ref q_left, .ref q_minors]))]) (h2 : isC.map (fun i => ws[i]?) = ([(q_this, .inr (4, [.int x_code, .int x_elements, .ref q_numbers, .ref q_stair, .ref q_begins, .ref q_row, .ref q_matrix, .int x_many, .ref q_told, .ref q_across, .int x_known, .ref q_power, .ref q_left, .ref q_minors]))] : va_W).map some) (h3 : va_nd isC = true) (h4 : isR.map (fun i => ws[i]?) = wr.map some) (h5 : va_nd isR = true) (h6 : ∀ i ∈ isR, i ∉ isC) (h7 : kt.filterMap (fun i => tys[i]?) = []) (hw : wp_MD_count x_code x_elements x_many x_known post) {pc : Nat} {ls : Array Slot} {rest : List Value} (hsize : ls.size = nL) (hrest : (rest.map fun v => v.category).sum ≤ 8) (hdg : decode cc pc = .ok (.invokevirtual index, 3)) (hf : cells + 0 ≤ R.cells ∧ slots + 0 ≤ R.slots) (kk : ∀ (r : Int32) (m0 : Int32) (H1 : Heap) (locs1 : List Loc), post r m0 → va_P (dC, dI) zz_cl (wr ++ [(q_this, .inr (4, [.int m0, .int x_elements, .ref q_numbers, .ref q_stair, .ref q_begins, .ref q_row, .ref q_matrix, .int x_many, .ref q_told, .ref q_across, .int x_known, .ref q_power, .ref q_left, .ref q_minors]))]) H1 → va_D A0 (wr ++ [(q_this, .inr (4, [.int m0, .int x_elements, .ref q_numbers, .ref q_stair, .ref q_begins, .ref q_row, .ref q_matrix, .int x_many, .ref q_told, .ref q_across, .int x_known, .ref q_power, .ref q_left, .ref q_minors]))]) → va_S A0 H0 H1 locs1 → W p l e R s m args below meth c H1 locs1 (cells + 0) (slots + 0) Q (F0 m (pc + 3) ls (.int r :: rest))) : W p l e R s m args below meth c H locs cells slots Q (F0 m pc ls (.ref q_this :: rest)) := by
  have hPc := hP.sub (ws' := [(q_this, .inr (4, [.int x_code, .int x_elements, .ref q_numbers, .ref q_stair, .ref q_begins, .ref q_row, .ref q_matrix, .int x_many, .ref q_told, .ref q_across, .int x_known, .ref q_power, .ref q_left, .ref q_minors]))]) isC h1
  have hDc := hD.sub (ws' := [(q_this, .inr (4, [.int x_code, .int x_elements, .ref q_numbers, .ref q_stair, .ref q_begins, .ref q_row, .ref q_matrix, .int x_many, .ref q_told, .ref q_across, .int x_known, .ref q_power, .ref q_left, .ref q_minors]))]) isC h3 h2
  have hKc := hK.sub (tys' := []) kt h7
  have hFc := va_free (wc := [(q_this, .inr (4, [.int x_code, .int x_elements, .ref q_numbers, .ref q_stair, .ref q_begins, .ref q_row, .ref q_matrix, .int x_many, .ref q_told, .ref q_across, .int x_known, .ref q_power, .ref q_left, .ref q_minors]))]) hD hS hA isC h2
  refine va_calli (va_runV (As := []) (rest := rest) S (c_MD_count l dC dI q_this q_numbers q_stair q_begins q_row q_matrix q_told q_across q_power q_left q_minors H.size x_code x_elements x_many x_known post hw) cw ⟨zz_blind, va_recv hKc hPc (ci := 4) (q0 := 0) rfl rfl, fun U hU hW => ⟨rfl, by rw [hU], by rw [hU]; exact hPc, va_K.moved hW.alike hKc, hDc.weaken (fun _ _ _ _ => trivial)⟩⟩ rfl rfl hsize rfl (lv_room hrest) hdg hf) hS (fun q _ h => hFc q h) hFc (fun r u t H1 locs ht hvm hw hB hz1 hk1 hS => ?_)
  obtain ⟨hP1, hK1, hD1⟩ := hB
  rw [ht] at hP1
  obtain ⟨hP2, hD2⟩ := va_join (wr := wr) (w1 := [(q_this, .inr (4, [.int u, .int x_elements, .ref q_numbers, .ref q_stair, .ref q_begins, .ref q_row, .ref q_matrix, .int x_many, .ref q_told, .ref q_across, .int x_known, .ref q_power, .ref q_left, .ref q_minors]))]) hP hD isC isR h2 h4 h5 h6 hk1 hFc hP1 hD1
  exact kk r u H1 locs hw hP2 hD2 hS
abbrev rm_MD_clear : Room := { frames := 0, cells := 0, slots := 0, locals := 0 }
abbrev qz_MD_clear (dC : Nat → ClassId) (dI : Nat → Nat → Nat) (q_this q_numbers q_stair q_begins q_row q_matrix q_told q_across q_power q_left q_minors : Nat) (x_many : Int32) (post : Int32 → Int32 → Int32 → Prop) (A : Nat → Prop) : Array Value → State → Outcome → State → Prop := va_Qv (fun (u : Int32 × Int32 × Int32) => post u.1 u.2.1 u.2.2) (fun (u : Int32 × Int32 × Int32) (t : State) => va_P (dC, dI) zz_cl [(q_this, .inr (4, [.int u.1, .int u.2.1, .ref q_numbers, .ref q_stair, .ref q_begins, .ref q_row, .ref q_matrix, .int x_many, .ref q_told, .ref q_across, .int u.2.2, .ref q_power, .ref q_left, .ref q_minors]))] t.heap ∧ va_K (dC, dI) zz_cl [] t ∧ va_D A [(q_this, .inr (4, [.int u.1, .int u.2.1, .ref q_numbers, .ref q_stair, .ref q_begins, .ref q_row, .ref q_matrix, .int x_many, .ref q_told, .ref q_across, .int u.2.2, .ref q_power, .ref q_left, .ref q_minors]))]) A
def cx_MD_clear (p : Program) (s : State) (m : MethodId) (args : Array Value) (meth : Method) (c : Code) : Prop := p.tables.exec = Jvm.exec ∧ c.code = b_MD_clear ∧ meth.sig.returnType = none ∧ c.maxLocals = 1 ∧ s.vm.findClass "StructureRowsModel" = some m.cls ∧ (∀ w ∈ zz_GW, w.before args s = true) ∧ meth.locks = false
def wp_MD_clear (x_code : Int32) (x_elements : Int32) (x_many : Int32) (x_known : Int32)  (post : Int32 → Int32 → Int32 → Prop) : Prop := post 0 0 0
set_option maxHeartbeats 4000000 in
set_option maxRecDepth 100000 in
theorem c_MD_clear (l : Launch) (dC : Nat → ClassId) (dI : Nat → Nat → Nat) (q_this q_numbers q_stair q_begins q_row q_matrix q_told q_across q_power q_left q_minors : Nat) (sz : Nat) (x_code : Int32) (x_elements : Int32) (x_many : Int32) (x_known : Int32)  (post : Int32 → Int32 → Int32 → Prop) (hw : wp_MD_clear x_code x_elements x_many x_known post) : Met l y_MD_clear (zz_w y_MD_clear b_MD_clear 1 none) rm_MD_clear (va_Pc [.ref q_this] (fun U => U.heap.size = sz ∧ va_P (dC, dI) zz_cl [(q_this, .inr (4, [.int x_code, .int x_elements, .ref q_numbers, .ref q_stair, .ref q_begins, .ref q_row, .ref q_matrix, .int x_many, .ref q_told, .ref q_across, .int x_known, .ref q_power, .ref q_left, .ref q_minors]))] U.heap ∧ va_K (dC, dI) zz_cl [] U ∧ va_D (fun _ => True) [(q_this, .inr (4, [.int x_code, .int x_elements, .ref q_numbers, .ref q_stair, .ref q_begins, .ref q_row, .ref q_matrix, .int x_many, .ref q_told, .ref q_across, .int x_known, .ref q_power, .ref q_left, .ref q_minors]))])) (qz_MD_clear dC dI q_this q_numbers q_stair q_begins q_row q_matrix q_told q_across q_power q_left q_minors x_many post (va_A [(q_this, .inr (4, [.int x_code, .int x_elements, .ref q_numbers, .ref q_stair, .ref q_begins, .ref q_row, .ref q_matrix, .int x_many, .ref q_told, .ref q_across, .int x_known, .ref q_power, .ref q_left, .ref q_minors]))] sz)) 0 0 (va_A [(q_this, .inr (4, [.int x_code, .int x_elements, .ref q_numbers, .ref q_stair, .ref q_begins, .ref q_row, .ref q_matrix, .int x_many, .ref q_told, .ref q_across, .int x_known, .ref q_power, .ref q_left, .ref q_minors]))] sz) := by
  refine Met.ofW (cc := b_MD_clear) (maxL := 1) (ret := none) (by decide) rfl ?_
  intro p e s m args below meth c s₁ B hml hv
  obtain ⟨rfl, hsz, hP, hK, hD0⟩ := hv
  have hx := B.exec
  have hb := B.bytes
  have hr := B.returns
  have hts0 := atoms_spec (ws := (zz_w y_MD_clear b_MD_clear 1 none)) B.pre
  have hts : ∀ w ∈ zz_GW, w.before _ s = true := fun w h => hts0 w (List.mem_cons_of_mem _ h)
  clear hts0
  have hown : s.vm.findClass "StructureRowsModel" = some m.cls := findClass_of_methodNamed B.named
  have hlocks := B.notSynchronized
  have C0 : cx_MD_clear p s m _ meth c := ⟨hx, hb, hr, hml, hown, hts, hlocks⟩
  subst hsz
  have hD := hD0.self (sz := s.heap.size)
  generalize hAe : va_A [(q_this, .inr (4, [.int x_code, .int x_elements, .ref q_numbers, .ref q_stair, .ref q_begins, .ref q_row, .ref q_matrix, .int x_many, .ref q_told, .ref q_across, .int x_known, .ref q_power, .ref q_left, .ref q_minors]))] s.heap.size = A at hD ⊢
  have hA : ∀ q : Nat, s.heap.size ≤ q → A q := fun q h => by rw [← hAe]; exact Or.inr h
  clear hAe hD0
  have hS : va_S A s.heap s.heap [] := va_S.rf
  have hl := lv_entry ([.ref q_this]) (n := 1) (Nat.le_of_ble_eq_true rfl)
  rw [lg_entry_eq]
  generalize (lg_sl ([.ref q_this]) ++ List.replicate (1 - (lg_sl ([.ref q_this])).length) Slot.unset).toArray = ls at hl ⊢
  replace hl : lv_has ls 1 [(0, .ref q_this)] := hl
  unfold wp_MD_clear at hw
  change W p l e rm_MD_clear s m _ below meth c s.heap [] 0 0 _ _
  refine lv_aload_n hx hb d_MD_clear_0 rfl (lv_at hl 0 rfl) ?_
  refine lv_iconst (v := 0) hx hb d_MD_clear_1 (by decide) ?_
  refine va_put (D := (dC, dI)) (ci := 4) (v := .int 0) (ty := .int) (C := "StructureRowsModel") (T := T_MD) (N := 14) hx hb hts in_MD ty_MD tyok_MD nm_MD hown hK hP hD hS 0 rfl rfl 0 (by decide) (hts _ tw_483) (fun _ h9 => h9) rfl (by decide +kernel) rfl rfl (Nat.le_of_ble_eq_true rfl) d_MD_clear_2 (fun H locs hP hD hS => ?_)
  replace hP : va_P (dC, dI) zz_cl [(q_this, .inr (4, [.int 0, .int x_elements, .ref q_numbers, .ref q_stair, .ref q_begins, .ref q_row, .ref q_matrix, .int x_many, .ref q_told, .ref q_across, .int x_known, .ref q_power, .ref q_left, .ref q_minors]))] H := hP
  replace hD : va_D A [(q_this, .inr (4, [.int 0, .int x_elements, .ref q_numbers, .ref q_stair, .ref q_begins, .ref q_row, .ref q_matrix, .int x_many, .ref q_told, .ref q_across, .int x_known, .ref q_power, .ref q_left, .ref q_minors]))] := hD
  refine lv_aload_n hx hb d_MD_clear_5 rfl (lv_at hl 0 rfl) ?_
  refine lv_iconst (v := 0) hx hb d_MD_clear_6 (by decide) ?_
  refine va_put (D := (dC, dI)) (ci := 4) (v := .int 0) (ty := .int) (C := "StructureRowsModel") (T := T_MD) (N := 14) hx hb hts in_MD ty_MD tyok_MD nm_MD hown hK hP hD hS 0 rfl rfl 1 (by decide) (hts _ tw_484) (fun _ h9 => h9) rfl (by decide +kernel) rfl rfl (Nat.le_of_ble_eq_true rfl) d_MD_clear_7 (fun H locs hP hD hS => ?_)
  replace hP : va_P (dC, dI) zz_cl [(q_this, .inr (4, [.int 0, .int 0, .ref q_numbers, .ref q_stair, .ref q_begins, .ref q_row, .ref q_matrix, .int x_many, .ref q_told, .ref q_across, .int x_known, .ref q_power, .ref q_left, .ref q_minors]))] H := hP
  replace hD : va_D A [(q_this, .inr (4, [.int 0, .int 0, .ref q_numbers, .ref q_stair, .ref q_begins, .ref q_row, .ref q_matrix, .int x_many, .ref q_told, .ref q_across, .int x_known, .ref q_power, .ref q_left, .ref q_minors]))] := hD
  refine lv_aload_n hx hb d_MD_clear_10 rfl (lv_at hl 0 rfl) ?_
  refine lv_iconst (v := 0) hx hb d_MD_clear_11 (by decide) ?_
  refine va_put (D := (dC, dI)) (ci := 4) (v := .int 0) (ty := .boolean) (C := "StructureRowsModel") (T := T_MD) (N := 14) hx hb hts in_MD ty_MD tyok_MD nm_MD hown hK hP hD hS 0 rfl rfl 10 (by decide) (hts _ tw_493) (fun _ h9 => h9) rfl (by decide +kernel) rfl rfl (Nat.le_of_ble_eq_true rfl) d_MD_clear_12 (fun H locs hP hD hS => ?_)
  replace hP : va_P (dC, dI) zz_cl [(q_this, .inr (4, [.int 0, .int 0, .ref q_numbers, .ref q_stair, .ref q_begins, .ref q_row, .ref q_matrix, .int x_many, .ref q_told, .ref q_across, .int 0, .ref q_power, .ref q_left, .ref q_minors]))] H := hP
  replace hD : va_D A [(q_this, .inr (4, [.int 0, .int 0, .ref q_numbers, .ref q_stair, .ref q_begins, .ref q_row, .ref q_matrix, .int x_many, .ref q_told, .ref q_across, .int 0, .ref q_power, .ref q_left, .ref q_minors]))] := hD
  exact W.vret hx hb hr (fun t ht hW => ⟨⟨(0, 0, 0), rfl, hw, by rw [ht]; exact hP, va_K.moved hW.alike hK, hD⟩, hS.F ht⟩) hS.2.2 d_MD_clear_15
set_option maxHeartbeats 4000000 in
set_option maxRecDepth 100000 in
theorem go_MD_clear {p : Program} {l : Launch} {e : Env} {R : Room} {s : State} {m : MethodId} {args : Array Value} {below : List Frame} {meth : Method} {c : Code} {H : Heap} {locs : List Loc} {cells slots : Nat} {Q : State → Prop} {cc : ByteArray} {nL : Nat} {Ts : List Cond} {own : String} {index : Nat} {A0 : Nat → Prop} {H0 : Heap} {dC : Nat → ClassId} {dI : Nat → Nat → Nat} {ws wr : va_W} {tys : List (ClassId × FieldType)} {q_this q_numbers q_stair q_begins q_row q_matrix q_told q_across q_power q_left q_minors : Nat} {x_code : Int32} {x_elements : Int32} {x_many : Int32} {x_known : Int32}  {post : Int32 → Int32 → Int32 → Prop} (S : CallFix p m c cc nL s args Ts own) (cw : CallW R s args own "StructureRowsModel" index y_MD_clear b_MD_clear 1 none (zz_w y_MD_clear b_MD_clear 1 none) rm_MD_clear 0 0 0) (hK : va_K (dC, dI) zz_cl tys s) (hP : va_P (dC, dI) zz_cl ws H) (hD : va_D A0 ws) (hS : va_S A0 H0 H locs) (hA : ∀ q, H0.size ≤ q → A0 q) (isC isR kt : List Nat) (h1 : isC.filterMap (fun i => ws[i]?) = [(q_this, .inr (4, [.int x_code, .int x_elements, .ref q_numbers, .ref q_stair, .ref q_begins, .ref q_row, .ref q_matrix, .int x_many, .ref q_told, .ref q_across, .int x_known, .ref q_power, .ref q_left, .ref q_minors]))]) (h2 : isC.map (fun i => ws[i]?) = ([(q_this, .inr (4, [.int x_code, .int x_elements, .ref q_numbers, .ref q_stair, .ref q_begins, .ref q_row, .ref q_matrix, .int x_many, .ref q_told, .ref q_across, .int x_known, .ref q_power, .ref q_left, .ref q_minors]))] : va_W).map some) (h3 : va_nd isC = true) (h4 : isR.map (fun i => ws[i]?) = wr.map some) (h5 : va_nd isR = true) (h6 : ∀ i ∈ isR, i ∉ isC) (h7 : kt.filterMap (fun i => tys[i]?) = []) (hw : wp_MD_clear x_code x_elements x_many x_known post) {pc : Nat} {ls : Array Slot} {rest : List Value} (hsize : ls.size = nL) (hrest : (rest.map fun v => v.category).sum ≤ 8) (hdg : decode cc pc = .ok (.invokevirtual index, 3)) (hf : cells + 0 ≤ R.cells ∧ slots + 0 ≤ R.slots) (kk : ∀ (m0 : Int32) (m1 : Int32) (m2 : Int32) (H1 : Heap) (locs1 : List Loc), post m0 m1 m2 → va_P (dC, dI) zz_cl (wr ++ [(q_this, .inr (4, [.int m0, .int m1, .ref q_numbers, .ref q_stair, .ref q_begins, .ref q_row, .ref q_matrix, .int x_many, .ref q_told, .ref q_across, .int m2, .ref q_power, .ref q_left, .ref q_minors]))]) H1 → va_D A0 (wr ++ [(q_this, .inr (4, [.int m0, .int m1, .ref q_numbers, .ref q_stair, .ref q_begins, .ref q_row, .ref q_matrix, .int x_many, .ref q_told, .ref q_across, .int m2, .ref q_power, .ref q_left, .ref q_minors]))]) → va_S A0 H0 H1 locs1 → W p l e R s m args below meth c H1 locs1 (cells + 0) (slots + 0) Q (F0 m (pc + 3) ls rest)) : W p l e R s m args below meth c H locs cells slots Q (F0 m pc ls (.ref q_this :: rest)) := by
  have hPc := hP.sub (ws' := [(q_this, .inr (4, [.int x_code, .int x_elements, .ref q_numbers, .ref q_stair, .ref q_begins, .ref q_row, .ref q_matrix, .int x_many, .ref q_told, .ref q_across, .int x_known, .ref q_power, .ref q_left, .ref q_minors]))]) isC h1
  have hDc := hD.sub (ws' := [(q_this, .inr (4, [.int x_code, .int x_elements, .ref q_numbers, .ref q_stair, .ref q_begins, .ref q_row, .ref q_matrix, .int x_many, .ref q_told, .ref q_across, .int x_known, .ref q_power, .ref q_left, .ref q_minors]))]) isC h3 h2
  have hKc := hK.sub (tys' := []) kt h7
  have hFc := va_free (wc := [(q_this, .inr (4, [.int x_code, .int x_elements, .ref q_numbers, .ref q_stair, .ref q_begins, .ref q_row, .ref q_matrix, .int x_many, .ref q_told, .ref q_across, .int x_known, .ref q_power, .ref q_left, .ref q_minors]))]) hD hS hA isC h2
  refine va_callv (va_runV (As := []) (rest := rest) S (c_MD_clear l dC dI q_this q_numbers q_stair q_begins q_row q_matrix q_told q_across q_power q_left q_minors H.size x_code x_elements x_many x_known post hw) cw ⟨zz_blind, va_recv hKc hPc (ci := 4) (q0 := 0) rfl rfl, fun U hU hW => ⟨rfl, by rw [hU], by rw [hU]; exact hPc, va_K.moved hW.alike hKc, hDc.weaken (fun _ _ _ _ => trivial)⟩⟩ rfl rfl hsize rfl (lv_room hrest) hdg hf) hS (fun q _ h => hFc q h) hFc (fun u t H1 locs ht hvm hw hB hz1 hk1 hS => ?_)
  obtain ⟨hP1, hK1, hD1⟩ := hB
  rw [ht] at hP1
  obtain ⟨hP2, hD2⟩ := va_join (wr := wr) (w1 := [(q_this, .inr (4, [.int u.1, .int u.2.1, .ref q_numbers, .ref q_stair, .ref q_begins, .ref q_row, .ref q_matrix, .int x_many, .ref q_told, .ref q_across, .int u.2.2, .ref q_power, .ref q_left, .ref q_minors]))]) hP hD isC isR h2 h4 h5 h6 hk1 hFc hP1 hD1
  exact kk u.1 u.2.1 u.2.2 H1 locs hw hP2 hD2 hS
abbrev rm_MD_start : Room := { frames := 0, cells := 0, slots := 0, locals := 0 }
abbrev qz_MD_start (dC : Nat → ClassId) (dI : Nat → Nat → Nat) (q_this q_numbers q_stair q_begins q_row q_matrix q_told q_across q_power q_left q_minors : Nat) (k_begins : ClassId) (x_code : Int32) (x_elements : Int32) (x_many : Int32) (x_known : Int32) (post : (Nat → Int32) → Prop) (A : Nat → Prop) : Array Value → State → Outcome → State → Prop := va_Qv (fun (u : (Nat → Int32)) => post u) (fun (u : (Nat → Int32)) (t : State) => va_P (dC, dI) zz_cl [(q_this, .inr (4, [.int x_code, .int x_elements, .ref q_numbers, .ref q_stair, .ref q_begins, .ref q_row, .ref q_matrix, .int x_many, .ref q_told, .ref q_across, .int x_known, .ref q_power, .ref q_left, .ref q_minors])), (q_begins, .inl (k_begins, 8, .inl u))] t.heap ∧ va_K (dC, dI) zz_cl [(k_begins, .boolean)] t ∧ va_D A [(q_this, .inr (4, [.int x_code, .int x_elements, .ref q_numbers, .ref q_stair, .ref q_begins, .ref q_row, .ref q_matrix, .int x_many, .ref q_told, .ref q_across, .int x_known, .ref q_power, .ref q_left, .ref q_minors])), (q_begins, .inl (k_begins, 8, .inl u))]) A
def cx_MD_start (p : Program) (s : State) (m : MethodId) (args : Array Value) (meth : Method) (c : Code) : Prop := p.tables.exec = Jvm.exec ∧ c.code = b_MD_start ∧ meth.sig.returnType = none ∧ c.maxLocals = 2 ∧ s.vm.findClass "StructureRowsModel" = some m.cls ∧ (∀ w ∈ zz_GW, w.before args s = true) ∧ meth.locks = false
def wp_MD_start_2b (x_code : Int32) (x_elements : Int32) (x_many : Int32) (x_known : Int32) (post : (Nat → Int32) → Prop)  (P : (Nat → Int32) → Int32 → Prop) (x_begins : Nat → Int32) (u_1 : Int32) : Prop := (8 ≤ u_1 → (post x_begins)) ∧ (¬ 8 ≤ u_1 → (vp_in u_1 8 ∧ ∀ w_3 : Nat → Int32, w_3 = upd x_begins u_1.toNatClampNeg 0 → (∀ v_4 : Int32, v_4 = u_1 + 1 → (P w_3 v_4))))
def wp_MD_start_2 (x_code : Int32) (x_elements : Int32) (x_many : Int32) (x_known : Int32) (post : (Nat → Int32) → Prop)  (x_begins : Nat → Int32) (u_1 : Int32) : Prop := ∀ P : (Nat → Int32) → Int32 → Prop, (∀ (x_begins : Nat → Int32) (u_1 : Int32), wp_MD_start_2b x_code x_elements x_many x_known post P x_begins u_1 → P x_begins u_1) → P x_begins u_1
set_option maxHeartbeats 4000000 in
set_option maxRecDepth 100000 in
theorem k_MD_start_2 {p : Program} {l : Launch} {e : Env} {s : State} {m : MethodId} {args : Array Value} {below : List Frame} {meth : Method} {c : Code} {dC : Nat → ClassId} {dI : Nat → Nat → Nat} {A : Nat → Prop} {q_this q_numbers q_stair q_begins q_row q_matrix q_told q_across q_power q_left q_minors : Nat} {k_begins : ClassId} {x_code : Int32} {x_elements : Int32} {x_many : Int32} {x_known : Int32} {post : (Nat → Int32) → Prop}  (C0 : cx_MD_start p s m args meth c) (hA : ∀ q : Nat, s.heap.size ≤ q → A q) (hK : va_K (dC, dI) zz_cl [(k_begins, .boolean)] s) {x_begins : Nat → Int32} {u_1 : Int32} (hw : wp_MD_start_2 x_code x_elements x_many x_known post x_begins u_1) {H : Heap} {locs : List Loc} {ls : Array Slot} (hP : va_P (dC, dI) zz_cl [(q_this, .inr (4, [.int x_code, .int x_elements, .ref q_numbers, .ref q_stair, .ref q_begins, .ref q_row, .ref q_matrix, .int x_many, .ref q_told, .ref q_across, .int x_known, .ref q_power, .ref q_left, .ref q_minors])), (q_begins, .inl (k_begins, 8, .inl x_begins))] H) (hD : va_D A [(q_this, .inr (4, [.int x_code, .int x_elements, .ref q_numbers, .ref q_stair, .ref q_begins, .ref q_row, .ref q_matrix, .int x_many, .ref q_told, .ref q_across, .int x_known, .ref q_power, .ref q_left, .ref q_minors])), (q_begins, .inl (k_begins, 8, .inl x_begins))]) (hS : va_S A s.heap H locs) (hl : lv_has ls 2 [(0, .ref q_this), (1, .int u_1)]) : W p l e rm_MD_start s m args below meth c H locs 0 0 (MQ below (qz_MD_start dC dI q_this q_numbers q_stair q_begins q_row q_matrix q_told q_across q_power q_left q_minors k_begins x_code x_elements x_many x_known post A) args s 0 0 A) (F0 m 2 ls []) := by
  have C1 := C0
  obtain ⟨hx, hb, hr, hml, hown, hts, hlocks⟩ := C1
  refine hw (fun (x_begins : Nat → Int32) (u_1 : Int32) => ∀ (H : Heap) (locs : List Loc) (ls : Array Slot), va_P (dC, dI) zz_cl [(q_this, .inr (4, [.int x_code, .int x_elements, .ref q_numbers, .ref q_stair, .ref q_begins, .ref q_row, .ref q_matrix, .int x_many, .ref q_told, .ref q_across, .int x_known, .ref q_power, .ref q_left, .ref q_minors])), (q_begins, .inl (k_begins, 8, .inl x_begins))] H → va_D A [(q_this, .inr (4, [.int x_code, .int x_elements, .ref q_numbers, .ref q_stair, .ref q_begins, .ref q_row, .ref q_matrix, .int x_many, .ref q_told, .ref q_across, .int x_known, .ref q_power, .ref q_left, .ref q_minors])), (q_begins, .inl (k_begins, 8, .inl x_begins))] → va_S A s.heap H locs → lv_has ls 2 [(0, .ref q_this), (1, .int u_1)] → W p l e rm_MD_start s m args below meth c H locs 0 0 (MQ below (qz_MD_start dC dI q_this q_numbers q_stair q_begins q_row q_matrix q_told q_across q_power q_left q_minors k_begins x_code x_elements x_many x_known post A) args s 0 0 A) (F0 m 2 ls [])) ?_ H locs ls hP hD hS hl
  clear hw hP hD hS hl H locs ls
  intro x_begins u_1 hw H locs ls hP hD hS hl
  unfold wp_MD_start_2b at hw
  refine lv_iload_n hx hb d_MD_start_2 rfl (lv_at hl 1 rfl) ?_
  refine lv_bipush (v := 8) hx hb d_MD_start_3 (by decide) ?_
  refine lv_icmp_ge (tgt := 21) hx hb d_MD_start_5 (by decide) (fun h_1 => ?_) (fun h_1 => ?_)
  · replace hw := hw.1 h_1
    exact W.vret hx hb hr (fun t ht hW => ⟨⟨x_begins, rfl, hw, by rw [ht]; exact hP, va_K.moved hW.alike hK, hD⟩, hS.F ht⟩) hS.2.2 d_MD_start_21
  · replace hw := hw.2 h_1
    refine lv_aload_n hx hb d_MD_start_8 rfl (lv_at hl 0 rfl) ?_
    refine va_get (D := (dC, dI)) (ci := 4) (v := .ref q_begins) (C := "StructureRowsModel") (T := T_MD) (N := 14) hx hb hts in_MD hown hK hP 0 rfl rfl 4 (by decide) (hts _ tw_487) (fun _ h9 => h9) rfl d_MD_start_9 ?_
    refine lv_iload_n hx hb d_MD_start_12 rfl (lv_at hl 1 rfl) ?_
    refine lv_iconst (v := 0) hx hb d_MD_start_13 (by decide) ?_
    obtain ⟨h_2, hw⟩ := hw
    obtain ⟨w_3, ew_3⟩ : ∃ y : Nat → Int32, y = upd x_begins u_1.toNatClampNeg 0 := ⟨_, rfl⟩
    replace hw := hw w_3 ew_3
    refine va_zast hx hb hK hP hD hS 1 0 rfl rfl h_2 d_MD_start_14 (fun H locs hP hD hS => ?_)
    rw [show vp_nar .boolean (0 : Int32) = 0 from (by decide), ← ew_3] at hP hD
    replace hP : va_P (dC, dI) zz_cl [(q_this, .inr (4, [.int x_code, .int x_elements, .ref q_numbers, .ref q_stair, .ref q_begins, .ref q_row, .ref q_matrix, .int x_many, .ref q_told, .ref q_across, .int x_known, .ref q_power, .ref q_left, .ref q_minors])), (q_begins, .inl (k_begins, 8, .inl w_3))] H := hP
    replace hD : va_D A [(q_this, .inr (4, [.int x_code, .int x_elements, .ref q_numbers, .ref q_stair, .ref q_begins, .ref q_row, .ref q_matrix, .int x_many, .ref q_told, .ref q_across, .int x_known, .ref q_power, .ref q_left, .ref q_minors])), (q_begins, .inl (k_begins, 8, .inl w_3))] := hD
    obtain ⟨v_4, ev_4⟩ : ∃ y : Int32, y = u_1 + 1 := ⟨_, rfl⟩
    replace hw := hw v_4 ev_4
    refine lv_iinc (v := v_4) (lv' := [(1, .int v_4), (0, .ref q_this)]) hx hb d_MD_start_15 hl (k := 1) rfl (by rw [ev_4]; rfl) (by decide) rfl (fun ls hl => ?_)
    refine lv_goto (tgt := 2) hx hb d_MD_start_18 (by decide) ?_
    exact hw H locs ls hP hD hS (lv_sub hl [1, 0] rfl)
def wp_MD_start (x_code : Int32) (x_elements : Int32) (x_many : Int32) (x_known : Int32) (x_begins : Nat → Int32)  (post : (Nat → Int32) → Prop) : Prop := wp_MD_start_2 x_code x_elements x_many x_known post x_begins 0
set_option maxHeartbeats 4000000 in
set_option maxRecDepth 100000 in
theorem c_MD_start (l : Launch) (dC : Nat → ClassId) (dI : Nat → Nat → Nat) (q_this q_numbers q_stair q_begins q_row q_matrix q_told q_across q_power q_left q_minors : Nat) (k_begins : ClassId) (sz : Nat) (x_code : Int32) (x_elements : Int32) (x_many : Int32) (x_known : Int32) (x_begins : Nat → Int32)  (post : (Nat → Int32) → Prop) (hw : wp_MD_start x_code x_elements x_many x_known x_begins post) : Met l y_MD_start (zz_w y_MD_start b_MD_start 2 none) rm_MD_start (va_Pc [.ref q_this] (fun U => U.heap.size = sz ∧ va_P (dC, dI) zz_cl [(q_this, .inr (4, [.int x_code, .int x_elements, .ref q_numbers, .ref q_stair, .ref q_begins, .ref q_row, .ref q_matrix, .int x_many, .ref q_told, .ref q_across, .int x_known, .ref q_power, .ref q_left, .ref q_minors])), (q_begins, .inl (k_begins, 8, .inl x_begins))] U.heap ∧ va_K (dC, dI) zz_cl [(k_begins, .boolean)] U ∧ va_D (fun _ => True) [(q_this, .inr (4, [.int x_code, .int x_elements, .ref q_numbers, .ref q_stair, .ref q_begins, .ref q_row, .ref q_matrix, .int x_many, .ref q_told, .ref q_across, .int x_known, .ref q_power, .ref q_left, .ref q_minors])), (q_begins, .inl (k_begins, 8, .inl x_begins))])) (qz_MD_start dC dI q_this q_numbers q_stair q_begins q_row q_matrix q_told q_across q_power q_left q_minors k_begins x_code x_elements x_many x_known post (va_A [(q_this, .inr (4, [.int x_code, .int x_elements, .ref q_numbers, .ref q_stair, .ref q_begins, .ref q_row, .ref q_matrix, .int x_many, .ref q_told, .ref q_across, .int x_known, .ref q_power, .ref q_left, .ref q_minors])), (q_begins, .inl (k_begins, 8, .inl x_begins))] sz)) 0 0 (va_A [(q_this, .inr (4, [.int x_code, .int x_elements, .ref q_numbers, .ref q_stair, .ref q_begins, .ref q_row, .ref q_matrix, .int x_many, .ref q_told, .ref q_across, .int x_known, .ref q_power, .ref q_left, .ref q_minors])), (q_begins, .inl (k_begins, 8, .inl x_begins))] sz) := by
  refine Met.ofW (cc := b_MD_start) (maxL := 2) (ret := none) (by decide) rfl ?_
  intro p e s m args below meth c s₁ B hml hv
  obtain ⟨rfl, hsz, hP, hK, hD0⟩ := hv
  have hx := B.exec
  have hb := B.bytes
  have hr := B.returns
  have hts0 := atoms_spec (ws := (zz_w y_MD_start b_MD_start 2 none)) B.pre
  have hts : ∀ w ∈ zz_GW, w.before _ s = true := fun w h => hts0 w (List.mem_cons_of_mem _ h)
  clear hts0
  have hown : s.vm.findClass "StructureRowsModel" = some m.cls := findClass_of_methodNamed B.named
  have hlocks := B.notSynchronized
  have C0 : cx_MD_start p s m _ meth c := ⟨hx, hb, hr, hml, hown, hts, hlocks⟩
  subst hsz
  have hD := hD0.self (sz := s.heap.size)
  generalize hAe : va_A [(q_this, .inr (4, [.int x_code, .int x_elements, .ref q_numbers, .ref q_stair, .ref q_begins, .ref q_row, .ref q_matrix, .int x_many, .ref q_told, .ref q_across, .int x_known, .ref q_power, .ref q_left, .ref q_minors])), (q_begins, .inl (k_begins, 8, .inl x_begins))] s.heap.size = A at hD ⊢
  have hA : ∀ q : Nat, s.heap.size ≤ q → A q := fun q h => by rw [← hAe]; exact Or.inr h
  clear hAe hD0
  have hS : va_S A s.heap s.heap [] := va_S.rf
  have hl := lv_entry ([.ref q_this]) (n := 2) (Nat.le_of_ble_eq_true rfl)
  rw [lg_entry_eq]
  generalize (lg_sl ([.ref q_this]) ++ List.replicate (2 - (lg_sl ([.ref q_this])).length) Slot.unset).toArray = ls at hl ⊢
  replace hl : lv_has ls 2 [(0, .ref q_this)] := hl
  unfold wp_MD_start at hw
  change W p l e rm_MD_start s m _ below meth c s.heap [] 0 0 _ _
  refine lv_iconst (v := 0) hx hb d_MD_start_0 (by decide) ?_
  refine lv_istore_n (lv' := [(1, .int 0), (0, .ref q_this)]) hx hb d_MD_start_1 rfl hl (by decide) rfl (fun ls hl => ?_)
  exact k_MD_start_2 C0 hA hK hw hP hD hS (lv_sub hl [1, 0] rfl)
set_option maxHeartbeats 4000000 in
set_option maxRecDepth 100000 in
theorem go_MD_start {p : Program} {l : Launch} {e : Env} {R : Room} {s : State} {m : MethodId} {args : Array Value} {below : List Frame} {meth : Method} {c : Code} {H : Heap} {locs : List Loc} {cells slots : Nat} {Q : State → Prop} {cc : ByteArray} {nL : Nat} {Ts : List Cond} {own : String} {index : Nat} {A0 : Nat → Prop} {H0 : Heap} {dC : Nat → ClassId} {dI : Nat → Nat → Nat} {ws wr : va_W} {tys : List (ClassId × FieldType)} {q_this q_numbers q_stair q_begins q_row q_matrix q_told q_across q_power q_left q_minors : Nat} {k_begins : ClassId} {x_code : Int32} {x_elements : Int32} {x_many : Int32} {x_known : Int32} {x_begins : Nat → Int32}  {post : (Nat → Int32) → Prop} (S : CallFix p m c cc nL s args Ts own) (cw : CallW R s args own "StructureRowsModel" index y_MD_start b_MD_start 2 none (zz_w y_MD_start b_MD_start 2 none) rm_MD_start 0 0 0) (hK : va_K (dC, dI) zz_cl tys s) (hP : va_P (dC, dI) zz_cl ws H) (hD : va_D A0 ws) (hS : va_S A0 H0 H locs) (hA : ∀ q, H0.size ≤ q → A0 q) (isC isR kt : List Nat) (h1 : isC.filterMap (fun i => ws[i]?) = [(q_this, .inr (4, [.int x_code, .int x_elements, .ref q_numbers, .ref q_stair, .ref q_begins, .ref q_row, .ref q_matrix, .int x_many, .ref q_told, .ref q_across, .int x_known, .ref q_power, .ref q_left, .ref q_minors])), (q_begins, .inl (k_begins, 8, .inl x_begins))]) (h2 : isC.map (fun i => ws[i]?) = ([(q_this, .inr (4, [.int x_code, .int x_elements, .ref q_numbers, .ref q_stair, .ref q_begins, .ref q_row, .ref q_matrix, .int x_many, .ref q_told, .ref q_across, .int x_known, .ref q_power, .ref q_left, .ref q_minors])), (q_begins, .inl (k_begins, 8, .inl x_begins))] : va_W).map some) (h3 : va_nd isC = true) (h4 : isR.map (fun i => ws[i]?) = wr.map some) (h5 : va_nd isR = true) (h6 : ∀ i ∈ isR, i ∉ isC) (h7 : kt.filterMap (fun i => tys[i]?) = [(k_begins, .boolean)]) (hw : wp_MD_start x_code x_elements x_many x_known x_begins post) {pc : Nat} {ls : Array Slot} {rest : List Value} (hsize : ls.size = nL) (hrest : (rest.map fun v => v.category).sum ≤ 8) (hdg : decode cc pc = .ok (.invokevirtual index, 3)) (hf : cells + 0 ≤ R.cells ∧ slots + 0 ≤ R.slots) (kk : ∀ (m0 : Nat → Int32) (H1 : Heap) (locs1 : List Loc), post m0 → va_P (dC, dI) zz_cl (wr ++ [(q_this, .inr (4, [.int x_code, .int x_elements, .ref q_numbers, .ref q_stair, .ref q_begins, .ref q_row, .ref q_matrix, .int x_many, .ref q_told, .ref q_across, .int x_known, .ref q_power, .ref q_left, .ref q_minors])), (q_begins, .inl (k_begins, 8, .inl m0))]) H1 → va_D A0 (wr ++ [(q_this, .inr (4, [.int x_code, .int x_elements, .ref q_numbers, .ref q_stair, .ref q_begins, .ref q_row, .ref q_matrix, .int x_many, .ref q_told, .ref q_across, .int x_known, .ref q_power, .ref q_left, .ref q_minors])), (q_begins, .inl (k_begins, 8, .inl m0))]) → va_S A0 H0 H1 locs1 → W p l e R s m args below meth c H1 locs1 (cells + 0) (slots + 0) Q (F0 m (pc + 3) ls rest)) : W p l e R s m args below meth c H locs cells slots Q (F0 m pc ls (.ref q_this :: rest)) := by
  have hPc := hP.sub (ws' := [(q_this, .inr (4, [.int x_code, .int x_elements, .ref q_numbers, .ref q_stair, .ref q_begins, .ref q_row, .ref q_matrix, .int x_many, .ref q_told, .ref q_across, .int x_known, .ref q_power, .ref q_left, .ref q_minors])), (q_begins, .inl (k_begins, 8, .inl x_begins))]) isC h1
  have hDc := hD.sub (ws' := [(q_this, .inr (4, [.int x_code, .int x_elements, .ref q_numbers, .ref q_stair, .ref q_begins, .ref q_row, .ref q_matrix, .int x_many, .ref q_told, .ref q_across, .int x_known, .ref q_power, .ref q_left, .ref q_minors])), (q_begins, .inl (k_begins, 8, .inl x_begins))]) isC h3 h2
  have hKc := hK.sub (tys' := [(k_begins, .boolean)]) kt h7
  have hFc := va_free (wc := [(q_this, .inr (4, [.int x_code, .int x_elements, .ref q_numbers, .ref q_stair, .ref q_begins, .ref q_row, .ref q_matrix, .int x_many, .ref q_told, .ref q_across, .int x_known, .ref q_power, .ref q_left, .ref q_minors])), (q_begins, .inl (k_begins, 8, .inl x_begins))]) hD hS hA isC h2
  refine va_callv (va_runV (As := []) (rest := rest) S (c_MD_start l dC dI q_this q_numbers q_stair q_begins q_row q_matrix q_told q_across q_power q_left q_minors k_begins H.size x_code x_elements x_many x_known x_begins post hw) cw ⟨zz_blind, va_recv hKc hPc (ci := 4) (q0 := 0) rfl rfl, fun U hU hW => ⟨rfl, by rw [hU], by rw [hU]; exact hPc, va_K.moved hW.alike hKc, hDc.weaken (fun _ _ _ _ => trivial)⟩⟩ rfl rfl hsize rfl (lv_room hrest) hdg hf) hS (fun q _ h => hFc q h) hFc (fun u t H1 locs ht hvm hw hB hz1 hk1 hS => ?_)
  obtain ⟨hP1, hK1, hD1⟩ := hB
  rw [ht] at hP1
  obtain ⟨hP2, hD2⟩ := va_join (wr := wr) (w1 := [(q_this, .inr (4, [.int x_code, .int x_elements, .ref q_numbers, .ref q_stair, .ref q_begins, .ref q_row, .ref q_matrix, .int x_many, .ref q_told, .ref q_across, .int x_known, .ref q_power, .ref q_left, .ref q_minors])), (q_begins, .inl (k_begins, 8, .inl u))]) hP hD isC isR h2 h4 h5 h6 hk1 hFc hP1 hD1
  exact kk u H1 locs hw hP2 hD2 hS
