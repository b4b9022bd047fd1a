abbrev rm_IN_bitCount : Room := { frames := 0, cells := 0, slots := 0, locals := 0 }
abbrev qz_IN_bitCount (dC : Nat → ClassId) (dI : Nat → Nat → Nat)  (post : Int32 → Prop) (A : Nat → Prop) : Array Value → State → Outcome → State → Prop := va_Qi (fun (r : Int32) (_ : Unit) => post r) (fun (u : Unit) (t : State) => va_P (dC, dI) zz_cl [] t.heap ∧ va_K (dC, dI) zz_cl [] t ∧ va_D A []) A
def cx_IN_bitCount (p : Program) (s : State) (m : MethodId) (args : Array Value) (meth : Method) (c : Code) : Prop := p.tables.exec = Jvm.exec ∧ c.code = b_IN_bitCount ∧ meth.sig.returnType = (some .int) ∧ c.maxLocals = 1 ∧ s.vm.findClass "java/lang/Integer" = some m.cls ∧ (∀ w ∈ zz_GW, w.before args s = true) ∧ meth.locks = false
def wp_IN_bitCount  (a_0 : Int32) (post : Int32 → Prop) : Prop := ∀ v_1 : Int32, v_1 = a_0 - (((a_0.toUInt32 >>> ((1 : Int32).toUInt32 &&& Int32.toUInt32 31)).toInt32) &&& 1431655765) → (∀ v_2 : Int32, v_2 = (v_1 &&& 858993459) + (((v_1.toUInt32 >>> ((2 : Int32).toUInt32 &&& Int32.toUInt32 31)).toInt32) &&& 858993459) → (∀ v_3 : Int32, v_3 = (v_2 + ((v_2.toUInt32 >>> ((4 : Int32).toUInt32 &&& Int32.toUInt32 31)).toInt32)) &&& 252645135 → (∀ v_4 : Int32, v_4 = v_3 + ((v_3.toUInt32 >>> ((8 : Int32).toUInt32 &&& Int32.toUInt32 31)).toInt32) → (∀ v_5 : Int32, v_5 = v_4 + ((v_4.toUInt32 >>> ((16 : Int32).toUInt32 &&& Int32.toUInt32 31)).toInt32) → (post (v_5 &&& 63))))))
set_option maxHeartbeats 4000000 in
set_option maxRecDepth 100000 in
theorem c_IN_bitCount (l : Launch) (dC : Nat → ClassId) (dI : Nat → Nat → Nat) (sz : Nat)  (a_0 : Int32) (post : Int32 → Prop) (hw : wp_IN_bitCount a_0 post) : Met l y_IN_bitCount (zz_w y_IN_bitCount b_IN_bitCount 1 (some .int)) rm_IN_bitCount (va_Pc [.int a_0] (fun U => U.heap.size = sz ∧ va_P (dC, dI) zz_cl [] U.heap ∧ va_K (dC, dI) zz_cl [] U ∧ va_D (fun _ => True) [])) (qz_IN_bitCount dC dI post (va_A [] sz)) 0 0 (va_A [] sz) := by
  refine va_MetF (cc := b_IN_bitCount) (maxL := 1) (ret := (some .int)) (by decide +kernel) rfl ?_
  intro p e s m args below meth c s₁ B hml hv
  obtain ⟨rfl, hsz, hP, hK, hD0⟩ := hv
  have hx := B.exec
  have hb := B.bytes
  have hr := B.returns
  have hts0 := atoms_spec (ws := (zz_w y_IN_bitCount b_IN_bitCount 1 (some .int))) B.pre
  have hts : ∀ w ∈ zz_GW, w.before _ s = true := fun w h => hts0 w (List.mem_cons_of_mem _ h)
  clear hts0
  have hown : s.vm.findClass "java/lang/Integer" = some m.cls := findClass_of_methodNamed B.named
  have hlocks := B.notSynchronized
  have C0 : cx_IN_bitCount p s m _ meth c := ⟨hx, hb, hr, hml, hown, hts, hlocks⟩
  subst hsz
  have hD := hD0.self (sz := s.heap.size)
  generalize hAe : va_A [] s.heap.size = A at hD ⊢
  have hA : ∀ q : Nat, s.heap.size ≤ q → A q := fun q h => by rw [← hAe]; exact Or.inr h
  clear hAe hD0
  have hS : va_S A s.heap s.heap [] := va_S.rf
  have hl := lv_entry ([.int a_0]) (n := 1) (Nat.le_of_ble_eq_true rfl)
  rw [lg_entry_eq]
  generalize (lg_sl ([.int a_0]) ++ List.replicate (1 - (lg_sl ([.int a_0])).length) Slot.unset).toArray = ls at hl ⊢
  replace hl : lv_has ls 1 [(0, .int a_0)] := hl
  unfold wp_IN_bitCount at hw
  change W p l e rm_IN_bitCount s m _ below meth c s.heap [] 0 0 _ _
  refine lv_iload_n hx hb d_IN_bitCount_0 rfl (lv_at hl 0 rfl) ?_
  refine lv_iload_n hx hb d_IN_bitCount_1 rfl (lv_at hl 0 rfl) ?_
  refine lv_iconst (v := 1) hx hb d_IN_bitCount_2 (by decide) ?_
  refine lv_iushr (v := (a_0.toUInt32 >>> ((1 : Int32).toUInt32 &&& Int32.toUInt32 31)).toInt32) hx hb d_IN_bitCount_3 rfl ?_
  refine lv_ldcw (v := 1431655765) hx hb hown (hts _ tw_411) d_IN_bitCount_4 ?_
  refine lv_iand hx hb d_IN_bitCount_7 ?_
  refine lv_isub hx hb d_IN_bitCount_8 ?_
  refine lv_topi (fun v_1 ev_1 => ?_)
  replace hw := hw v_1 ev_1
  refine lv_istore_n (lv' := [(0, .int v_1)]) hx hb d_IN_bitCount_9 rfl hl (by decide) rfl (fun ls hl => ?_)
  refine lv_iload_n hx hb d_IN_bitCount_10 rfl (lv_at hl 0 rfl) ?_
  refine lv_ldcw (v := 858993459) hx hb hown (hts _ tw_412) d_IN_bitCount_11 ?_
  refine lv_iand hx hb d_IN_bitCount_14 ?_
  refine lv_iload_n hx hb d_IN_bitCount_15 rfl (lv_at hl 0 rfl) ?_
  refine lv_iconst (v := 2) hx hb d_IN_bitCount_16 (by decide) ?_
  refine lv_iushr (v := (v_1.toUInt32 >>> ((2 : Int32).toUInt32 &&& Int32.toUInt32 31)).toInt32) hx hb d_IN_bitCount_17 rfl ?_
  refine lv_ldcw (v := 858993459) hx hb hown (hts _ tw_412) d_IN_bitCount_18 ?_
  refine lv_iand hx hb d_IN_bitCount_21 ?_
  refine lv_iadd hx hb d_IN_bitCount_22 ?_
  refine lv_topi (fun v_2 ev_2 => ?_)
  replace hw := hw v_2 ev_2
  refine lv_istore_n (lv' := [(0, .int v_2)]) hx hb d_IN_bitCount_23 rfl hl (by decide) rfl (fun ls hl => ?_)
  refine lv_iload_n hx hb d_IN_bitCount_24 rfl (lv_at hl 0 rfl) ?_
  refine lv_iload_n hx hb d_IN_bitCount_25 rfl (lv_at hl 0 rfl) ?_
  refine lv_iconst (v := 4) hx hb d_IN_bitCount_26 (by decide) ?_
  refine lv_iushr (v := (v_2.toUInt32 >>> ((4 : Int32).toUInt32 &&& Int32.toUInt32 31)).toInt32) hx hb d_IN_bitCount_27 rfl ?_
  refine lv_iadd hx hb d_IN_bitCount_28 ?_
  refine lv_ldcw (v := 252645135) hx hb hown (hts _ tw_413) d_IN_bitCount_29 ?_
  refine lv_iand hx hb d_IN_bitCount_32 ?_
  refine lv_topi (fun v_3 ev_3 => ?_)
  replace hw := hw v_3 ev_3
  refine lv_istore_n (lv' := [(0, .int v_3)]) hx hb d_IN_bitCount_33 rfl hl (by decide) rfl (fun ls hl => ?_)
  refine lv_iload_n hx hb d_IN_bitCount_34 rfl (lv_at hl 0 rfl) ?_
  refine lv_iload_n hx hb d_IN_bitCount_35 rfl (lv_at hl 0 rfl) ?_
  refine lv_bipush (v := 8) hx hb d_IN_bitCount_36 (by decide) ?_
  refine lv_iushr (v := (v_3.toUInt32 >>> ((8 : Int32).toUInt32 &&& Int32.toUInt32 31)).toInt32) hx hb d_IN_bitCount_38 rfl ?_
  refine lv_iadd hx hb d_IN_bitCount_39 ?_
  refine lv_topi (fun v_4 ev_4 => ?_)
  replace hw := hw v_4 ev_4
  refine lv_istore_n (lv' := [(0, .int v_4)]) hx hb d_IN_bitCount_40 rfl hl (by decide) rfl (fun ls hl => ?_)
  refine lv_iload_n hx hb d_IN_bitCount_41 rfl (lv_at hl 0 rfl) ?_
  refine lv_iload_n hx hb d_IN_bitCount_42 rfl (lv_at hl 0 rfl) ?_
  refine lv_bipush (v := 16) hx hb d_IN_bitCount_43 (by decide) ?_
  refine lv_iushr (v := (v_4.toUInt32 >>> ((16 : Int32).toUInt32 &&& Int32.toUInt32 31)).toInt32) hx hb d_IN_bitCount_45 rfl ?_
  refine lv_iadd hx hb d_IN_bitCount_46 ?_
  refine lv_topi (fun v_5 ev_5 => ?_)
  replace hw := hw v_5 ev_5
  refine lv_istore_n (lv' := [(0, .int v_5)]) hx hb d_IN_bitCount_47 rfl hl (by decide) rfl (fun ls hl => ?_)
  refine lv_iload_n hx hb d_IN_bitCount_48 rfl (lv_at hl 0 rfl) ?_
  refine lv_bipush (v := 63) hx hb d_IN_bitCount_49 (by decide) ?_
  refine lv_iand hx hb d_IN_bitCount_51 ?_
  exact W.iret (v := v_5 &&& 63) hx hb hr (fun t ht hW => ⟨⟨v_5 &&& 63, (), rfl, hw, by rw [ht]; exact hP, va_K.moved hW.alike hK, hD⟩, hS.F ht⟩) hS.2.2 d_IN_bitCount_52
set_option maxHeartbeats 4000000 in
set_option maxRecDepth 100000 in
theorem go_IN_bitCount {p : Program} {l : Launch} {e : Env} {R : Room} {s : State} {m : MethodId} {args : Array Value} {below : List Frame} {meth : Method} {c : Code} {H : Heap} {locs : List Loc} {cells slots : Nat} {Q : State → Prop} {cc : ByteArray} {nL : Nat} {Ts : List Cond} {own : String} {index : Nat} {A0 : Nat → Prop} {H0 : Heap} {dC : Nat → ClassId} {dI : Nat → Nat → Nat} {ws wr : va_W} {tys : List (ClassId × FieldType)}  {a_0 : Int32} {post : Int32 → Prop} (S : CallFix p m c cc nL s args Ts own) (cw : CallB R s args own index y_IN_bitCount b_IN_bitCount 1 (some .int) (zz_w y_IN_bitCount b_IN_bitCount 1 (some .int)) rm_IN_bitCount 0 0 1 ∧ (Cond.static y_IN_bitCount).before args s = true) (hK : va_K (dC, dI) zz_cl tys s) (hP : va_P (dC, dI) zz_cl ws H) (hD : va_D A0 ws) (hS : va_S A0 H0 H locs) (hA : ∀ q, H0.size ≤ q → A0 q) (isC isR kt : List Nat) (h1 : isC.filterMap (fun i => ws[i]?) = []) (h2 : isC.map (fun i => ws[i]?) = ([] : va_W).map some) (h3 : va_nd isC = true) (h4 : isR.map (fun i => ws[i]?) = wr.map some) (h5 : va_nd isR = true) (h6 : ∀ i ∈ isR, i ∉ isC) (h7 : kt.filterMap (fun i => tys[i]?) = []) (hw : wp_IN_bitCount a_0 post) {pc : Nat} {ls : Array Slot} {rest : List Value} (hsize : ls.size = nL) (hrest : (rest.map fun v => v.category).sum ≤ 8) (hdg : decode cc pc = .ok (.invokestatic index, 3)) (hf : cells + 0 ≤ R.cells ∧ slots + 0 ≤ R.slots) (kk : ∀ (r : Int32) (H1 : Heap) (locs1 : List Loc), post r → va_P (dC, dI) zz_cl (wr ++ []) H1 → va_D A0 (wr ++ []) → va_S A0 H0 H1 locs1 → W p l e R s m args below meth c H1 locs1 (cells + 0) (slots + 0) Q (F0 m (pc + 3) ls (.int r :: rest))) : W p l e R s m args below meth c H locs cells slots Q (F0 m pc ls (.int a_0 :: rest)) := by
  have hPc := hP.sub (ws' := []) isC h1
  have hDc := hD.sub (ws' := []) isC h3 h2
  have hKc := hK.sub (tys' := []) kt h7
  have hFc := va_free (wc := []) hD hS hA isC h2
  refine va_calli (va_runS (As := [.int a_0]) (rest := rest) S (c_IN_bitCount l dC dI H.size a_0 post hw) cw ⟨zz_blind, fun U hU hW => ⟨rfl, by rw [hU], by rw [hU]; exact hPc, va_K.moved hW.alike hKc, hDc.weaken (fun _ _ _ _ => trivial)⟩⟩ rfl rfl hsize rfl (lv_room hrest) hdg hf) hS (fun q _ h => hFc q h) hFc (fun r u t H1 locs ht hvm hw hB hz1 hk1 hS => ?_)
  obtain ⟨hP1, hK1, hD1⟩ := hB
  rw [ht] at hP1
  obtain ⟨hP2, hD2⟩ := va_join (wr := wr) (w1 := []) hP hD isC isR h2 h4 h5 h6 hk1 hFc hP1 hD1
  exact kk r H1 locs hw hP2 hD2 hS
abbrev rm_MN_alongLastRow : Room := { frames := 0, cells := 0, slots := 0, locals := 0 }
abbrev qz_MN_alongLastRow (dC : Nat → ClassId) (dI : Nat → Nat → Nat) (q_this q_values q_p0 : Nat) (k_values k_p0 : ClassId) (x_rowSets : Int32) (x_values : Nat → Int64) (x_p0 : Nat → Int32) (post : Int64 → Prop) (A : Nat → Prop) : Array Value → State → Outcome → State → Prop := va_Ql (fun (r : Int64) (_ : Unit) => post r) (fun (u : Unit) (t : State) => va_P (dC, dI) zz_cl [(q_this, .inr (0, [.ref q_values, .int x_rowSets])), (q_values, .inl (k_values, 256, .inr (.inl x_values))), (q_p0, .inl (k_p0, 16, .inl x_p0))] t.heap ∧ va_K (dC, dI) zz_cl [(k_values, .long), (k_p0, .int)] t ∧ va_D A [(q_this, .inr (0, [.ref q_values, .int x_rowSets])), (q_values, .inl (k_values, 256, .inr (.inl x_values))), (q_p0, .inl (k_p0, 16, .inl x_p0))]) A
def cx_MN_alongLastRow (p : Program) (s : State) (m : MethodId) (args : Array Value) (meth : Method) (c : Code) : Prop := p.tables.exec = Jvm.exec ∧ c.code = b_MN_alongLastRow ∧ meth.sig.returnType = (some .long) ∧ c.maxLocals = 13 ∧ s.vm.findClass "StructureRows$Minors" = some m.cls ∧ (∀ w ∈ zz_GW, w.before args s = true) ∧ meth.locks = false
def wp_MN_alongLastRow_70 (x_rowSets : Int32) (x_values : Nat → Int64) (x_p0 : Nat → Int32) (u_2 : Int32) (u_3 : Int32) (u_4 : Int32) (post : Int64 → Prop) (K_9 : Int64 → Int64 → Int32 → Prop) (u_5 : Int64) (u_7 : Int64) (u_9 : Int32) : Prop := ∀ v_4 : Int32, v_4 = u_9 + (-1) → (K_9 u_5 u_7 v_4)
set_option maxHeartbeats 4000000 in
set_option maxRecDepth 100000 in
theorem k_MN_alongLastRow_70 {p : Program} {l : Launch} {e : Env} {s : State} {m : MethodId} {args : Array Value} {below : List Frame} {meth : Method} {c : Code} {dC : Nat → ClassId} {dI : Nat → Nat → Nat} {A : Nat → Prop} {q_this q_values q_p0 : Nat} {k_values k_p0 : ClassId} {x_rowSets : Int32} {x_values : Nat → Int64} {x_p0 : Nat → Int32} {u_2 : Int32} {u_3 : Int32} {u_4 : Int32} {post : Int64 → Prop} {K_9 : Int64 → Int64 → Int32 → Prop} (C0 : cx_MN_alongLastRow p s m args meth c) (hA : ∀ q : Nat, s.heap.size ≤ q → A q) (hK : va_K (dC, dI) zz_cl [(k_values, .long), (k_p0, .int)] s) (hg_9 : ∀ (u_5 : Int64) (u_7 : Int64) (u_9 : Int32) (H : Heap) (locs : List Loc) (ls : Array Slot), K_9 u_5 u_7 u_9 → va_P (dC, dI) zz_cl [(q_this, .inr (0, [.ref q_values, .int x_rowSets])), (q_values, .inl (k_values, 256, .inr (.inl x_values))), (q_p0, .inl (k_p0, 16, .inl x_p0))] H → va_D A [(q_this, .inr (0, [.ref q_values, .int x_rowSets])), (q_values, .inl (k_values, 256, .inr (.inl x_values))), (q_p0, .inl (k_p0, 16, .inl x_p0))] → va_S A s.heap H locs → lv_has ls 13 [(0, .ref q_this), (1, .ref q_p0), (2, .int u_2), (3, .int u_3), (4, .int u_4), (5, .long u_5), (7, .long u_7), (9, .int u_9)] → W p l e rm_MN_alongLastRow s m args below meth c H locs 0 0 (MQ below (qz_MN_alongLastRow dC dI q_this q_values q_p0 k_values k_p0 x_rowSets x_values x_p0 post A) args s 0 0 A) (F0 m 9 ls [])) {u_5 : Int64} {u_7 : Int64} {u_9 : Int32} (hw : wp_MN_alongLastRow_70 x_rowSets x_values x_p0 u_2 u_3 u_4 post K_9 u_5 u_7 u_9) {H : Heap} {locs : List Loc} {ls : Array Slot} (hP : va_P (dC, dI) zz_cl [(q_this, .inr (0, [.ref q_values, .int x_rowSets])), (q_values, .inl (k_values, 256, .inr (.inl x_values))), (q_p0, .inl (k_p0, 16, .inl x_p0))] H) (hD : va_D A [(q_this, .inr (0, [.ref q_values, .int x_rowSets])), (q_values, .inl (k_values, 256, .inr (.inl x_values))), (q_p0, .inl (k_p0, 16, .inl x_p0))]) (hS : va_S A s.heap H locs) (hl : lv_has ls 13 [(0, .ref q_this), (1, .ref q_p0), (2, .int u_2), (3, .int u_3), (4, .int u_4), (5, .long u_5), (7, .long u_7), (9, .int u_9)]) : W p l e rm_MN_alongLastRow s m args below meth c H locs 0 0 (MQ below (qz_MN_alongLastRow dC dI q_this q_values q_p0 k_values k_p0 x_rowSets x_values x_p0 post A) args s 0 0 A) (F0 m 70 ls []) := by
  have C1 := C0
  obtain ⟨hx, hb, hr, hml, hown, hts, hlocks⟩ := C1
  unfold wp_MN_alongLastRow_70 at hw
  obtain ⟨v_4, ev_4⟩ : ∃ y : Int32, y = u_9 + (-1) := ⟨_, rfl⟩
  replace hw := hw v_4 ev_4
  refine lv_iinc (v := v_4) (lv' := [(9, .int v_4), (0, .ref q_this), (1, .ref q_p0), (2, .int u_2), (3, .int u_3), (4, .int u_4), (5, .long u_5), (7, .long u_7)]) hx hb d_MN_alongLastRow_70 hl (k := 7) rfl (by rw [ev_4]; rfl) (by decide) rfl (fun ls hl => ?_)
  refine lv_goto (tgt := 9) hx hb d_MN_alongLastRow_73 (by decide) ?_
  exact hg_9 u_5 u_7 v_4 H locs ls hw hP hD hS (lv_sub hl [1, 2, 3, 4, 5, 6, 7, 0] rfl)
def wp_MN_alongLastRow_9b (x_rowSets : Int32) (x_values : Nat → Int64) (x_p0 : Nat → Int32) (u_2 : Int32) (u_3 : Int32) (u_4 : Int32) (post : Int64 → Prop)  (P : Int64 → Int64 → Int32 → Prop) (u_5 : Int64) (u_7 : Int64) (u_9 : Int32) : Prop := (u_9 < 0 → (post u_5)) ∧ (¬ u_9 < 0 → (∀ v_2 : Int32, v_2 = (1 : Int32) <<< (u_9 &&& 31) → (((u_4 &&& v_2) = 0 → (wp_MN_alongLastRow_70 x_rowSets x_values x_p0 u_2 u_3 u_4 post P u_5 u_7 u_9)) ∧ (¬ (u_4 &&& v_2) = 0 → (vp_in ((u_3 * 16) + (u_4 ^^^ v_2)) 256 ∧ (∀ v_6 : Int64, v_6 = x_values ((u_3 * 16) + (u_4 ^^^ v_2)).toNatClampNeg → (vp_in ((u_2 * 4) + u_9) 16 ∧ (∀ v_8 : Int64, v_8 = u_5 + ((u_7 * ((x_p0 ((u_2 * 4) + u_9).toNatClampNeg).toInt64)) * v_6) → (∀ v_9 : Int64, v_9 = -u_7 → (wp_MN_alongLastRow_70 x_rowSets x_values x_p0 u_2 u_3 u_4 post P v_8 v_9 u_9))))))))))
def wp_MN_alongLastRow_9 (x_rowSets : Int32) (x_values : Nat → Int64) (x_p0 : Nat → Int32) (u_2 : Int32) (u_3 : Int32) (u_4 : Int32) (post : Int64 → Prop)  (u_5 : Int64) (u_7 : Int64) (u_9 : Int32) : Prop := ∀ P : Int64 → Int64 → Int32 → Prop, (∀ (u_5 : Int64) (u_7 : Int64) (u_9 : Int32), wp_MN_alongLastRow_9b x_rowSets x_values x_p0 u_2 u_3 u_4 post P u_5 u_7 u_9 → P u_5 u_7 u_9) → P u_5 u_7 u_9
set_option maxHeartbeats 4000000 in
set_option maxRecDepth 100000 in
theorem k_MN_alongLastRow_9 {p : Program} {l : Launch} {e : Env} {s : State} {m : MethodId} {args : Array Value} {below : List Frame} {meth : Method} {c : Code} {dC : Nat → ClassId} {dI : Nat → Nat → Nat} {A : Nat → Prop} {q_this q_values q_p0 : Nat} {k_values k_p0 : ClassId} {x_rowSets : Int32} {x_values : Nat → Int64} {x_p0 : Nat → Int32} {u_2 : Int32} {u_3 : Int32} {u_4 : Int32} {post : Int64 → Prop}  (C0 : cx_MN_alongLastRow p s m args meth c) (hA : ∀ q : Nat, s.heap.size ≤ q → A q) (hK : va_K (dC, dI) zz_cl [(k_values, .long), (k_p0, .int)] s) {u_5 : Int64} {u_7 : Int64} {u_9 : Int32} (hw : wp_MN_alongLastRow_9 x_rowSets x_values x_p0 u_2 u_3 u_4 post u_5 u_7 u_9) {H : Heap} {locs : List Loc} {ls : Array Slot} (hP : va_P (dC, dI) zz_cl [(q_this, .inr (0, [.ref q_values, .int x_rowSets])), (q_values, .inl (k_values, 256, .inr (.inl x_values))), (q_p0, .inl (k_p0, 16, .inl x_p0))] H) (hD : va_D A [(q_this, .inr (0, [.ref q_values, .int x_rowSets])), (q_values, .inl (k_values, 256, .inr (.inl x_values))), (q_p0, .inl (k_p0, 16, .inl x_p0))]) (hS : va_S A s.heap H locs) (hl : lv_has ls 13 [(0, .ref q_this), (1, .ref q_p0), (2, .int u_2), (3, .int u_3), (4, .int u_4), (5, .long u_5), (7, .long u_7), (9, .int u_9)]) : W p l e rm_MN_alongLastRow s m args below meth c H locs 0 0 (MQ below (qz_MN_alongLastRow dC dI q_this q_values q_p0 k_values k_p0 x_rowSets x_values x_p0 post A) args s 0 0 A) (F0 m 9 ls []) := by
  have C1 := C0
  obtain ⟨hx, hb, hr, hml, hown, hts, hlocks⟩ := C1
  refine hw (fun (u_5 : Int64) (u_7 : Int64) (u_9 : Int32) => ∀ (H : Heap) (locs : List Loc) (ls : Array Slot), va_P (dC, dI) zz_cl [(q_this, .inr (0, [.ref q_values, .int x_rowSets])), (q_values, .inl (k_values, 256, .inr (.inl x_values))), (q_p0, .inl (k_p0, 16, .inl x_p0))] H → va_D A [(q_this, .inr (0, [.ref q_values, .int x_rowSets])), (q_values, .inl (k_values, 256, .inr (.inl x_values))), (q_p0, .inl (k_p0, 16, .inl x_p0))] → va_S A s.heap H locs → lv_has ls 13 [(0, .ref q_this), (1, .ref q_p0), (2, .int u_2), (3, .int u_3), (4, .int u_4), (5, .long u_5), (7, .long u_7), (9, .int u_9)] → W p l e rm_MN_alongLastRow s m args below meth c H locs 0 0 (MQ below (qz_MN_alongLastRow dC dI q_this q_values q_p0 k_values k_p0 x_rowSets x_values x_p0 post A) args s 0 0 A) (F0 m 9 ls [])) ?_ H locs ls hP hD hS hl
  clear hw hP hD hS hl H locs ls
  intro u_5 u_7 u_9 hw H locs ls hP hD hS hl
  unfold wp_MN_alongLastRow_9b at hw
  refine lv_iload hx hb d_MN_alongLastRow_9 (lv_at hl 7 rfl) ?_
  refine lv_if_lt (tgt := 76) hx hb d_MN_alongLastRow_11 (by decide) (fun h_1 => ?_) (fun h_1 => ?_)
  · replace hw := hw.1 h_1
    refine lv_lload hx hb d_MN_alongLastRow_76 (lv_at hl 5 rfl) ?_
    exact W.lret (v := u_5) hx hb hr (fun t ht hW => ⟨⟨u_5, (), rfl, hw, by rw [ht]; exact hP, va_K.moved hW.alike hK, hD⟩, hS.F ht⟩) hS.2.2 d_MN_alongLastRow_78
  · replace hw := hw.2 h_1
    refine lv_iconst (v := 1) hx hb d_MN_alongLastRow_14 (by decide) ?_
    refine lv_iload hx hb d_MN_alongLastRow_15 (lv_at hl 7 rfl) ?_
    refine lv_ishl hx hb d_MN_alongLastRow_17 ?_
    refine lv_topi (fun v_2 ev_2 => ?_)
    replace hw := hw v_2 ev_2
    refine lv_istore (lv' := [(10, .int v_2), (0, .ref q_this), (1, .ref q_p0), (2, .int u_2), (3, .int u_3), (4, .int u_4), (5, .long u_5), (7, .long u_7), (9, .int u_9)]) hx hb d_MN_alongLastRow_18 hl (by decide) rfl (fun ls hl => ?_)
    refine lv_iload hx hb d_MN_alongLastRow_20 (lv_at hl 5 rfl) ?_
    refine lv_iload hx hb d_MN_alongLastRow_22 (lv_at hl 0 rfl) ?_
    refine lv_iand hx hb d_MN_alongLastRow_24 ?_
    refine lv_if_eq (tgt := 70) hx hb d_MN_alongLastRow_25 (by decide) (fun h_3 => ?_) (fun h_3 => ?_)
    · replace hw := hw.1 h_3
      exact k_MN_alongLastRow_70 C0 hA hK (fun y0 y1 y2 H locs ls h9 h1 h2 h3 h4 => h9 H locs ls h1 h2 h3 h4) hw hP hD hS (lv_sub hl [1, 2, 3, 4, 5, 6, 7, 8] rfl)
    · replace hw := hw.2 h_3
      refine lv_aload_n hx hb d_MN_alongLastRow_28 rfl (lv_at hl 1 rfl) ?_
      refine va_get (D := (dC, dI)) (ci := 0) (v := .ref q_values) (C := "StructureRows$Minors") (T := T_MN) (N := 2) hx hb hts in_MN hown hK hP 0 rfl rfl 0 (by decide) (hts _ tw_82) (fun _ h9 => h9) rfl d_MN_alongLastRow_29 ?_
      refine lv_iload_n hx hb d_MN_alongLastRow_32 rfl (lv_at hl 4 rfl) ?_
      refine lv_bipush (v := 16) hx hb d_MN_alongLastRow_33 (by decide) ?_
      refine lv_imul hx hb d_MN_alongLastRow_35 ?_
      refine lv_iload hx hb d_MN_alongLastRow_36 (lv_at hl 5 rfl) ?_
      refine lv_iload hx hb d_MN_alongLastRow_38 (lv_at hl 0 rfl) ?_
      refine lv_ixor hx hb d_MN_alongLastRow_40 ?_
      refine lv_iadd hx hb d_MN_alongLastRow_41 ?_
      obtain ⟨h_5, hw⟩ := hw
      refine va_lald hx hb hK hP 1 0 rfl rfl h_5 d_MN_alongLastRow_42 ?_
      refine lv_topl (fun v_6 ev_6 => ?_)
      replace hw := hw v_6 ev_6
      refine lv_lstore (lv' := [(11, .long v_6), (10, .int v_2), (0, .ref q_this), (1, .ref q_p0), (2, .int u_2), (3, .int u_3), (4, .int u_4), (5, .long u_5), (7, .long u_7), (9, .int u_9)]) hx hb d_MN_alongLastRow_43 hl (by decide) rfl (fun ls hl => ?_)
      refine lv_lload hx hb d_MN_alongLastRow_45 (lv_at hl 7 rfl) ?_
      refine lv_lload hx hb d_MN_alongLastRow_47 (lv_at hl 8 rfl) ?_
      refine lv_aload_n hx hb d_MN_alongLastRow_49 rfl (lv_at hl 3 rfl) ?_
      refine lv_iload_n hx hb d_MN_alongLastRow_50 rfl (lv_at hl 4 rfl) ?_
      refine lv_iconst (v := 4) hx hb d_MN_alongLastRow_51 (by decide) ?_
      refine lv_imul hx hb d_MN_alongLastRow_52 ?_
      refine lv_iload hx hb d_MN_alongLastRow_53 (lv_at hl 9 rfl) ?_
      refine lv_iadd hx hb d_MN_alongLastRow_55 ?_
      obtain ⟨h_7, hw⟩ := hw
      refine va_iald hx hb hK hP 2 1 rfl rfl h_7 d_MN_alongLastRow_56 ?_
      refine lv_i2l (v := (x_p0 ((u_2 * 4) + u_9).toNatClampNeg).toInt64) hx hb d_MN_alongLastRow_57 rfl ?_
      refine lv_lmul hx hb d_MN_alongLastRow_58 ?_
      refine lv_lload hx hb d_MN_alongLastRow_59 (lv_at hl 0 rfl) ?_
      refine lv_lmul hx hb d_MN_alongLastRow_61 ?_
      refine lv_ladd hx hb d_MN_alongLastRow_62 ?_
      refine lv_topl (fun v_8 ev_8 => ?_)
      replace hw := hw v_8 ev_8
      refine lv_lstore (lv' := [(5, .long v_8), (11, .long v_6), (10, .int v_2), (0, .ref q_this), (1, .ref q_p0), (2, .int u_2), (3, .int u_3), (4, .int u_4), (7, .long u_7), (9, .int u_9)]) hx hb d_MN_alongLastRow_63 hl (by decide) rfl (fun ls hl => ?_)
      refine lv_lload hx hb d_MN_alongLastRow_65 (lv_at hl 8 rfl) ?_
      refine lv_lneg hx hb d_MN_alongLastRow_67 ?_
      refine lv_topl (fun v_9 ev_9 => ?_)
      replace hw := hw v_9 ev_9
      refine lv_lstore (lv' := [(7, .long v_9), (5, .long v_8), (11, .long v_6), (10, .int v_2), (0, .ref q_this), (1, .ref q_p0), (2, .int u_2), (3, .int u_3), (4, .int u_4), (9, .int u_9)]) hx hb d_MN_alongLastRow_68 hl (by decide) rfl (fun ls hl => ?_)
      exact k_MN_alongLastRow_70 C0 hA hK (fun y0 y1 y2 H locs ls h9 h1 h2 h3 h4 => h9 H locs ls h1 h2 h3 h4) hw hP hD hS (lv_sub hl [4, 5, 6, 7, 8, 1, 0, 9] rfl)
def wp_MN_alongLastRow (x_rowSets : Int32) (x_values : Nat → Int64) (x_p0 : Nat → Int32) (a_1 : Int32) (a_2 : Int32) (a_3 : Int32) (post : Int64 → Prop) : Prop := wp_MN_alongLastRow_9 x_rowSets x_values x_p0 a_1 a_2 a_3 post 0 1 3
set_option maxHeartbeats 4000000 in
set_option maxRecDepth 100000 in
theorem c_MN_alongLastRow (l : Launch) (dC : Nat → ClassId) (dI : Nat → Nat → Nat) (q_this q_values q_p0 : Nat) (k_values k_p0 : ClassId) (sz : Nat) (x_rowSets : Int32) (x_values : Nat → Int64) (x_p0 : Nat → Int32) (a_1 : Int32) (a_2 : Int32) (a_3 : Int32) (post : Int64 → Prop) (hw : wp_MN_alongLastRow x_rowSets x_values x_p0 a_1 a_2 a_3 post) : Met l y_MN_alongLastRow (zz_w y_MN_alongLastRow b_MN_alongLastRow 13 (some .long)) rm_MN_alongLastRow (va_Pc [.ref q_this, .ref q_p0, .int a_1, .int a_2, .int a_3] (fun U => U.heap.size = sz ∧ va_P (dC, dI) zz_cl [(q_this, .inr (0, [.ref q_values, .int x_rowSets])), (q_values, .inl (k_values, 256, .inr (.inl x_values))), (q_p0, .inl (k_p0, 16, .inl x_p0))] U.heap ∧ va_K (dC, dI) zz_cl [(k_values, .long), (k_p0, .int)] U ∧ va_D (fun _ => True) [(q_this, .inr (0, [.ref q_values, .int x_rowSets])), (q_values, .inl (k_values, 256, .inr (.inl x_values))), (q_p0, .inl (k_p0, 16, .inl x_p0))])) (qz_MN_alongLastRow dC dI q_this q_values q_p0 k_values k_p0 x_rowSets x_values x_p0 post (va_A [(q_this, .inr (0, [.ref q_values, .int x_rowSets])), (q_values, .inl (k_values, 256, .inr (.inl x_values))), (q_p0, .inl (k_p0, 16, .inl x_p0))] sz)) 0 0 (va_A [(q_this, .inr (0, [.ref q_values, .int x_rowSets])), (q_values, .inl (k_values, 256, .inr (.inl x_values))), (q_p0, .inl (k_p0, 16, .inl x_p0))] sz) := by
  refine Met.ofW (cc := b_MN_alongLastRow) (maxL := 13) (ret := (some .long)) (by decide) rfl ?_
  intro p e s m args below meth c s₁ B hml hv
  obtain ⟨rfl, hsz, hP, hK, hD0⟩ := hv
  have hx := B.exec
  have hb := B.bytes
  have hr := B.returns
  have hts0 := atoms_spec (ws := (zz_w y_MN_alongLastRow b_MN_alongLastRow 13 (some .long))) B.pre
  have hts : ∀ w ∈ zz_GW, w.before _ s = true := fun w h => hts0 w (List.mem_cons_of_mem _ h)
  clear hts0
  have hown : s.vm.findClass "StructureRows$Minors" = some m.cls := findClass_of_methodNamed B.named
  have hlocks := B.notSynchronized
  have C0 : cx_MN_alongLastRow p s m _ meth c := ⟨hx, hb, hr, hml, hown, hts, hlocks⟩
  subst hsz
  have hD := hD0.self (sz := s.heap.size)
  generalize hAe : va_A [(q_this, .inr (0, [.ref q_values, .int x_rowSets])), (q_values, .inl (k_values, 256, .inr (.inl x_values))), (q_p0, .inl (k_p0, 16, .inl x_p0))] s.heap.size = A at hD ⊢
  have hA : ∀ q : Nat, s.heap.size ≤ q → A q := fun q h => by rw [← hAe]; exact Or.inr h
  clear hAe hD0
  have hS : va_S A s.heap s.heap [] := va_S.rf
  have hl := lv_entry ([.ref q_this, .ref q_p0, .int a_1, .int a_2, .int a_3]) (n := 13) (Nat.le_of_ble_eq_true rfl)
  rw [lg_entry_eq]
  generalize (lg_sl ([.ref q_this, .ref q_p0, .int a_1, .int a_2, .int a_3]) ++ List.replicate (13 - (lg_sl ([.ref q_this, .ref q_p0, .int a_1, .int a_2, .int a_3])).length) Slot.unset).toArray = ls at hl ⊢
  replace hl : lv_has ls 13 [(0, .ref q_this), (1, .ref q_p0), (2, .int a_1), (3, .int a_2), (4, .int a_3)] := hl
  unfold wp_MN_alongLastRow at hw
  change W p l e rm_MN_alongLastRow s m _ below meth c s.heap [] 0 0 _ _
  refine lv_lconst (v := 0) hx hb d_MN_alongLastRow_0 (by decide) ?_
  refine lv_lstore (lv' := [(5, .long 0), (0, .ref q_this), (1, .ref q_p0), (2, .int a_1), (3, .int a_2), (4, .int a_3)]) hx hb d_MN_alongLastRow_1 hl (by decide) rfl (fun ls hl => ?_)
  refine lv_lconst (v := 1) hx hb d_MN_alongLastRow_3 (by decide) ?_
  refine lv_lstore (lv' := [(7, .long 1), (5, .long 0), (0, .ref q_this), (1, .ref q_p0), (2, .int a_1), (3, .int a_2), (4, .int a_3)]) hx hb d_MN_alongLastRow_4 hl (by decide) rfl (fun ls hl => ?_)
  refine lv_iconst (v := 3) hx hb d_MN_alongLastRow_6 (by decide) ?_
  refine lv_istore (lv' := [(9, .int 3), (7, .long 1), (5, .long 0), (0, .ref q_this), (1, .ref q_p0), (2, .int a_1), (3, .int a_2), (4, .int a_3)]) hx hb d_MN_alongLastRow_7 hl (by decide) rfl (fun ls hl => ?_)
  exact k_MN_alongLastRow_9 C0 hA hK hw hP hD hS (lv_sub hl [3, 4, 5, 6, 7, 2, 1, 0] rfl)
set_option maxHeartbeats 4000000 in
set_option maxRecDepth 100000 in
theorem go_MN_alongLastRow {p : Program} {l : Launch} {e : Env} {R : Room} {s : State} {m : MethodId} {args : Array Value} {below : List Frame} {meth : Method} {c : Code} {H : Heap} {locs : List Loc} {cells slots : Nat} {Q : State → Prop} {cc : ByteArray} {nL : Nat} {Ts : List Cond} {own : String} {index : Nat} {A0 : Nat → Prop} {H0 : Heap} {dC : Nat → ClassId} {dI : Nat → Nat → Nat} {ws wr : va_W} {tys : List (ClassId × FieldType)} {q_this q_values q_p0 : Nat} {k_values k_p0 : ClassId} {x_rowSets : Int32} {x_values : Nat → Int64} {x_p0 : Nat → Int32} {a_1 : Int32} {a_2 : Int32} {a_3 : Int32} {post : Int64 → Prop} (S : CallFix p m c cc nL s args Ts own) (cw : CallW R s args own "StructureRows$Minors" index y_MN_alongLastRow b_MN_alongLastRow 13 (some .long) (zz_w y_MN_alongLastRow b_MN_alongLastRow 13 (some .long)) rm_MN_alongLastRow 0 0 4) (hK : va_K (dC, dI) zz_cl tys s) (hP : va_P (dC, dI) zz_cl ws H) (hD : va_D A0 ws) (hS : va_S A0 H0 H locs) (hA : ∀ q, H0.size ≤ q → A0 q) (isC isR kt : List Nat) (h1 : isC.filterMap (fun i => ws[i]?) = [(q_this, .inr (0, [.ref q_values, .int x_rowSets])), (q_values, .inl (k_values, 256, .inr (.inl x_values))), (q_p0, .inl (k_p0, 16, .inl x_p0))]) (h2 : isC.map (fun i => ws[i]?) = ([(q_this, .inr (0, [.ref q_values, .int x_rowSets])), (q_values, .inl (k_values, 256, .inr (.inl x_values))), (q_p0, .inl (k_p0, 16, .inl x_p0))] : va_W).map some) (h3 : va_nd isC = true) (h4 : isR.map (fun i => ws[i]?) = wr.map some) (h5 : va_nd isR = true) (h6 : ∀ i ∈ isR, i ∉ isC) (h7 : kt.filterMap (fun i => tys[i]?) = [(k_values, .long), (k_p0, .int)]) (hw : wp_MN_alongLastRow x_rowSets x_values x_p0 a_1 a_2 a_3 post) {pc : Nat} {ls : Array Slot} {rest : List Value} (hsize : ls.size = nL) (hrest : (rest.map fun v => v.category).sum ≤ 8) (hdg : decode cc pc = .ok (.invokevirtual index, 3)) (hf : cells + 0 ≤ R.cells ∧ slots + 0 ≤ R.slots) (kk : ∀ (r : Int64) (H1 : Heap) (locs1 : List Loc), post r → va_P (dC, dI) zz_cl (wr ++ [(q_this, .inr (0, [.ref q_values, .int x_rowSets])), (q_values, .inl (k_values, 256, .inr (.inl x_values))), (q_p0, .inl (k_p0, 16, .inl x_p0))]) H1 → va_D A0 (wr ++ [(q_this, .inr (0, [.ref q_values, .int x_rowSets])), (q_values, .inl (k_values, 256, .inr (.inl x_values))), (q_p0, .inl (k_p0, 16, .inl x_p0))]) → va_S A0 H0 H1 locs1 → W p l e R s m args below meth c H1 locs1 (cells + 0) (slots + 0) Q (F0 m (pc + 3) ls (.long r :: rest))) : W p l e R s m args below meth c H locs cells slots Q (F0 m pc ls (.int a_3 :: .int a_2 :: .int a_1 :: .ref q_p0 :: .ref q_this :: rest)) := by
  have hPc := hP.sub (ws' := [(q_this, .inr (0, [.ref q_values, .int x_rowSets])), (q_values, .inl (k_values, 256, .inr (.inl x_values))), (q_p0, .inl (k_p0, 16, .inl x_p0))]) isC h1
  have hDc := hD.sub (ws' := [(q_this, .inr (0, [.ref q_values, .int x_rowSets])), (q_values, .inl (k_values, 256, .inr (.inl x_values))), (q_p0, .inl (k_p0, 16, .inl x_p0))]) isC h3 h2
  have hKc := hK.sub (tys' := [(k_values, .long), (k_p0, .int)]) kt h7
  have hFc := va_free (wc := [(q_this, .inr (0, [.ref q_values, .int x_rowSets])), (q_values, .inl (k_values, 256, .inr (.inl x_values))), (q_p0, .inl (k_p0, 16, .inl x_p0))]) hD hS hA isC h2
  refine va_calll (va_runV (As := [.ref q_p0, .int a_1, .int a_2, .int a_3]) (rest := rest) S (c_MN_alongLastRow l dC dI q_this q_values q_p0 k_values k_p0 H.size x_rowSets x_values x_p0 a_1 a_2 a_3 post hw) cw ⟨zz_blind, va_recv hKc hPc (ci := 0) (q0 := 0) rfl rfl, fun U hU hW => ⟨rfl, by rw [hU], by rw [hU]; exact hPc, va_K.moved hW.alike hKc, hDc.weaken (fun _ _ _ _ => trivial)⟩⟩ rfl rfl hsize rfl (lv_room hrest) hdg hf) hS (fun q _ h => hFc q h) hFc (fun r u t H1 locs ht hvm hw hB hz1 hk1 hS => ?_)
  obtain ⟨hP1, hK1, hD1⟩ := hB
  rw [ht] at hP1
  obtain ⟨hP2, hD2⟩ := va_join (wr := wr) (w1 := [(q_this, .inr (0, [.ref q_values, .int x_rowSets])), (q_values, .inl (k_values, 256, .inr (.inl x_values))), (q_p0, .inl (k_p0, 16, .inl x_p0))]) hP hD isC isR h2 h4 h5 h6 hk1 hFc hP1 hD1
  exact kk r H1 locs hw hP2 hD2 hS
abbrev rm_MN_expand : Room := { frames := 1, cells := 0, slots := 0, locals := 32 }
abbrev qz_MN_expand (dC : Nat → ClassId) (dI : Nat → Nat → Nat) (q_this q_values q_p0 : Nat) (k_values k_p0 : ClassId) (x_p0 : Nat → Int32) (post : Int32 → (Nat → Int64) → Prop) (A : Nat → Prop) : Array Value → State → Outcome → State → Prop := va_Qv (fun (u : Int32 × (Nat → Int64)) => post u.1 u.2) (fun (u : Int32 × (Nat → Int64)) (t : State) => va_P (dC, dI) zz_cl [(q_this, .inr (0, [.ref q_values, .int u.1])), (q_values, .inl (k_values, 256, .inr (.inl u.2))), (q_p0, .inl (k_p0, 16, .inl x_p0))] t.heap ∧ va_K (dC, dI) zz_cl [(k_values, .long), (k_p0, .int)] t ∧ va_D A [(q_this, .inr (0, [.ref q_values, .int u.1])), (q_values, .inl (k_values, 256, .inr (.inl u.2))), (q_p0, .inl (k_p0, 16, .inl x_p0))]) A
def cx_MN_expand (p : Program) (s : State) (m : MethodId) (args : Array Value) (meth : Method) (c : Code) : Prop := p.tables.exec = Jvm.exec ∧ c.code = b_MN_expand ∧ meth.sig.returnType = none ∧ c.maxLocals = 7 ∧ s.vm.findClass "StructureRows$Minors" = some m.cls ∧ (∀ w ∈ zz_GW, w.before args s = true) ∧ meth.locks = false
def wp_MN_expand_87 (x_rowSets : Int32) (x_p0 : Nat → Int32) (u_2 : Int32) (u_3 : Int32) (u_4 : Int32) (u_5 : Int32) (post : Int32 → (Nat → Int64) → Prop) (K_16 : (Nat → Int64) → Int32 → Prop) (K_29 : (Nat → Int64) → Int32 → Prop) (K_39 : (Nat → Int64) → Int32 → Prop) (x_values : Nat → Int64) (u_6 : Int32) : Prop := ∀ v_13 : Int32, v_13 = u_6 + 1 → (K_39 x_values v_13)
set_option maxHeartbeats 4000000 in
set_option maxRecDepth 100000 in
theorem k_MN_expand_87 {p : Program} {l : Launch} {e : Env} {s : State} {m : MethodId} {args : Array Value} {below : List Frame} {meth : Method} {c : Code} {dC : Nat → ClassId} {dI : Nat → Nat → Nat} {A : Nat → Prop} {q_this q_values q_p0 : Nat} {k_values k_p0 : ClassId} {x_rowSets : Int32} {x_p0 : Nat → Int32} {u_2 : Int32} {u_3 : Int32} {u_4 : Int32} {u_5 : Int32} {post : Int32 → (Nat → Int64) → Prop} {K_16 : (Nat → Int64) → Int32 → Prop} {K_29 : (Nat → Int64) → Int32 → Prop} {K_39 : (Nat → Int64) → Int32 → Prop} (C0 : cx_MN_expand p s m args meth c) (hA : ∀ q : Nat, s.heap.size ≤ q → A q) (hK : va_K (dC, dI) zz_cl [(k_values, .long), (k_p0, .int)] s) (hg_16 : ∀ (x_values : Nat → Int64) (u_3 : Int32) (H : Heap) (locs : List Loc) (ls : Array Slot), K_16 x_values u_3 → va_P (dC, dI) zz_cl [(q_this, .inr (0, [.ref q_values, .int x_rowSets])), (q_values, .inl (k_values, 256, .inr (.inl x_values))), (q_p0, .inl (k_p0, 16, .inl x_p0))] H → va_D A [(q_this, .inr (0, [.ref q_values, .int x_rowSets])), (q_values, .inl (k_values, 256, .inr (.inl x_values))), (q_p0, .inl (k_p0, 16, .inl x_p0))] → va_S A s.heap H locs → lv_has ls 7 [(0, .ref q_this), (1, .ref q_p0), (2, .int u_2), (3, .int u_3)] → W p l e rm_MN_expand s m args below meth c H locs 0 0 (MQ below (qz_MN_expand dC dI q_this q_values q_p0 k_values k_p0 x_p0 post A) args s 0 0 A) (F0 m 16 ls [])) (hg_29 : ∀ (x_values : Nat → Int64) (u_5 : Int32) (H : Heap) (locs : List Loc) (ls : Array Slot), K_29 x_values u_5 → va_P (dC, dI) zz_cl [(q_this, .inr (0, [.ref q_values, .int x_rowSets])), (q_values, .inl (k_values, 256, .inr (.inl x_values))), (q_p0, .inl (k_p0, 16, .inl x_p0))] H → va_D A [(q_this, .inr (0, [.ref q_values, .int x_rowSets])), (q_values, .inl (k_values, 256, .inr (.inl x_values))), (q_p0, .inl (k_p0, 16, .inl x_p0))] → va_S A s.heap H locs → lv_has ls 7 [(0, .ref q_this), (1, .ref q_p0), (2, .int u_2), (3, .int u_3), (4, .int u_4), (5, .int u_5)] → W p l e rm_MN_expand s m args below meth c H locs 0 0 (MQ below (qz_MN_expand dC dI q_this q_values q_p0 k_values k_p0 x_p0 post A) args s 0 0 A) (F0 m 29 ls [])) (hg_39 : ∀ (x_values : Nat → Int64) (u_6 : Int32) (H : Heap) (locs : List Loc) (ls : Array Slot), K_39 x_values u_6 → va_P (dC, dI) zz_cl [(q_this, .inr (0, [.ref q_values, .int x_rowSets])), (q_values, .inl (k_values, 256, .inr (.inl x_values))), (q_p0, .inl (k_p0, 16, .inl x_p0))] H → va_D A [(q_this, .inr (0, [.ref q_values, .int x_rowSets])), (q_values, .inl (k_values, 256, .inr (.inl x_values))), (q_p0, .inl (k_p0, 16, .inl x_p0))] → va_S A s.heap H locs → lv_has ls 7 [(0, .ref q_this), (1, .ref q_p0), (2, .int u_2), (3, .int u_3), (4, .int u_4), (5, .int u_5), (6, .int u_6)] → W p l e rm_MN_expand s m args below meth c H locs 0 0 (MQ below (qz_MN_expand dC dI q_this q_values q_p0 k_values k_p0 x_p0 post A) args s 0 0 A) (F0 m 39 ls [])) {x_values : Nat → Int64} {u_6 : Int32} (hw : wp_MN_expand_87 x_rowSets x_p0 u_2 u_3 u_4 u_5 post K_16 K_29 K_39 x_values u_6) {H : Heap} {locs : List Loc} {ls : Array Slot} (hP : va_P (dC, dI) zz_cl [(q_this, .inr (0, [.ref q_values, .int x_rowSets])), (q_values, .inl (k_values, 256, .inr (.inl x_values))), (q_p0, .inl (k_p0, 16, .inl x_p0))] H) (hD : va_D A [(q_this, .inr (0, [.ref q_values, .int x_rowSets])), (q_values, .inl (k_values, 256, .inr (.inl x_values))), (q_p0, .inl (k_p0, 16, .inl x_p0))]) (hS : va_S A s.heap H locs) (hl : lv_has ls 7 [(0, .ref q_this), (1, .ref q_p0), (2, .int u_2), (3, .int u_3), (4, .int u_4), (5, .int u_5), (6, .int u_6)]) : W p l e rm_MN_expand s m args below meth c H locs 0 0 (MQ below (qz_MN_expand dC dI q_this q_values q_p0 k_values k_p0 x_p0 post A) args s 0 0 A) (F0 m 87 ls []) := by
  have C1 := C0
  obtain ⟨hx, hb, hr, hml, hown, hts, hlocks⟩ := C1
  unfold wp_MN_expand_87 at hw
  obtain ⟨v_13, ev_13⟩ : ∃ y : Int32, y = u_6 + 1 := ⟨_, rfl⟩
  replace hw := hw v_13 ev_13
  refine lv_iinc (v := v_13) (lv' := [(6, .int v_13), (0, .ref q_this), (1, .ref q_p0), (2, .int u_2), (3, .int u_3), (4, .int u_4), (5, .int u_5)]) hx hb d_MN_expand_87 hl (k := 6) rfl (by rw [ev_13]; rfl) (by decide) rfl (fun ls hl => ?_)
  refine lv_goto (tgt := 39) hx hb d_MN_expand_90 (by decide) ?_
  exact hg_39 x_values v_13 H locs ls hw hP hD hS (lv_sub hl [1, 2, 3, 4, 5, 6, 0] rfl)
def wp_MN_expand_39b (x_rowSets : Int32) (x_p0 : Nat → Int32) (u_2 : Int32) (u_3 : Int32) (u_4 : Int32) (u_5 : Int32) (post : Int32 → (Nat → Int64) → Prop) (K_16 : (Nat → Int64) → Int32 → Prop) (K_29 : (Nat → Int64) → Int32 → Prop) (P : (Nat → Int64) → Int32 → Prop) (x_values : Nat → Int64) (u_6 : Int32) : Prop := (16 ≤ u_6 → (∀ v_9 : Int32, v_9 = u_5 + 1 → (K_29 x_values v_9))) ∧ (¬ 16 ≤ u_6 → (wp_IN_bitCount u_6 (fun (r_10 : Int32) => (wp_IN_bitCount u_5 (fun (r_11 : Int32) => ((¬ r_10 = (r_11 + 1) → (wp_MN_expand_87 x_rowSets x_p0 u_2 u_3 u_4 u_5 post K_16 K_29 P x_values u_6)) ∧ (r_10 = (r_11 + 1) → (wp_MN_alongLastRow x_rowSets x_values x_p0 u_3 u_5 u_6 (fun (r_14 : Int64) => (vp_in (((u_4 ||| u_5) * 16) + u_6) 256 ∧ ∀ w_16 : Nat → Int64, w_16 = vp_updL x_values (((u_4 ||| u_5) * 16) + u_6).toNatClampNeg r_14 → (wp_MN_expand_87 x_rowSets x_p0 u_2 u_3 u_4 u_5 post K_16 K_29 P w_16 u_6)))))))))))
def wp_MN_expand_39 (x_rowSets : Int32) (x_p0 : Nat → Int32) (u_2 : Int32) (u_3 : Int32) (u_4 : Int32) (u_5 : Int32) (post : Int32 → (Nat → Int64) → Prop) (K_16 : (Nat → Int64) → Int32 → Prop) (K_29 : (Nat → Int64) → Int32 → Prop) (x_values : Nat → Int64) (u_6 : Int32) : Prop := ∀ P : (Nat → Int64) → Int32 → Prop, (∀ (x_values : Nat → Int64) (u_6 : Int32), wp_MN_expand_39b x_rowSets x_p0 u_2 u_3 u_4 u_5 post K_16 K_29 P x_values u_6 → P x_values u_6) → P x_values u_6
set_option maxHeartbeats 4000000 in
set_option maxRecDepth 100000 in
theorem k_MN_expand_39 {p : Program} {l : Launch} {e : Env} {s : State} {m : MethodId} {args : Array Value} {below : List Frame} {meth : Method} {c : Code} {dC : Nat → ClassId} {dI : Nat → Nat → Nat} {A : Nat → Prop} {q_this q_values q_p0 : Nat} {k_values k_p0 : ClassId} {x_rowSets : Int32} {x_p0 : Nat → Int32} {u_2 : Int32} {u_3 : Int32} {u_4 : Int32} {u_5 : Int32} {post : Int32 → (Nat → Int64) → Prop} {K_16 : (Nat → Int64) → Int32 → Prop} {K_29 : (Nat → Int64) → Int32 → Prop} (C0 : cx_MN_expand p s m args meth c) (hA : ∀ q : Nat, s.heap.size ≤ q → A q) (hK : va_K (dC, dI) zz_cl [(k_values, .long), (k_p0, .int)] s) (hg_16 : ∀ (x_values : Nat → Int64) (u_3 : Int32) (H : Heap) (locs : List Loc) (ls : Array Slot), K_16 x_values u_3 → va_P (dC, dI) zz_cl [(q_this, .inr (0, [.ref q_values, .int x_rowSets])), (q_values, .inl (k_values, 256, .inr (.inl x_values))), (q_p0, .inl (k_p0, 16, .inl x_p0))] H → va_D A [(q_this, .inr (0, [.ref q_values, .int x_rowSets])), (q_values, .inl (k_values, 256, .inr (.inl x_values))), (q_p0, .inl (k_p0, 16, .inl x_p0))] → va_S A s.heap H locs → lv_has ls 7 [(0, .ref q_this), (1, .ref q_p0), (2, .int u_2), (3, .int u_3)] → W p l e rm_MN_expand s m args below meth c H locs 0 0 (MQ below (qz_MN_expand dC dI q_this q_values q_p0 k_values k_p0 x_p0 post A) args s 0 0 A) (F0 m 16 ls [])) (hg_29 : ∀ (x_values : Nat → Int64) (u_5 : Int32) (H : Heap) (locs : List Loc) (ls : Array Slot), K_29 x_values u_5 → va_P (dC, dI) zz_cl [(q_this, .inr (0, [.ref q_values, .int x_rowSets])), (q_values, .inl (k_values, 256, .inr (.inl x_values))), (q_p0, .inl (k_p0, 16, .inl x_p0))] H → va_D A [(q_this, .inr (0, [.ref q_values, .int x_rowSets])), (q_values, .inl (k_values, 256, .inr (.inl x_values))), (q_p0, .inl (k_p0, 16, .inl x_p0))] → va_S A s.heap H locs → lv_has ls 7 [(0, .ref q_this), (1, .ref q_p0), (2, .int u_2), (3, .int u_3), (4, .int u_4), (5, .int u_5)] → W p l e rm_MN_expand s m args below meth c H locs 0 0 (MQ below (qz_MN_expand dC dI q_this q_values q_p0 k_values k_p0 x_p0 post A) args s 0 0 A) (F0 m 29 ls [])) {x_values : Nat → Int64} {u_6 : Int32} (hw : wp_MN_expand_39 x_rowSets x_p0 u_2 u_3 u_4 u_5 post K_16 K_29 x_values u_6) {H : Heap} {locs : List Loc} {ls : Array Slot} (hP : va_P (dC, dI) zz_cl [(q_this, .inr (0, [.ref q_values, .int x_rowSets])), (q_values, .inl (k_values, 256, .inr (.inl x_values))), (q_p0, .inl (k_p0, 16, .inl x_p0))] H) (hD : va_D A [(q_this, .inr (0, [.ref q_values, .int x_rowSets])), (q_values, .inl (k_values, 256, .inr (.inl x_values))), (q_p0, .inl (k_p0, 16, .inl x_p0))]) (hS : va_S A s.heap H locs) (hl : lv_has ls 7 [(0, .ref q_this), (1, .ref q_p0), (2, .int u_2), (3, .int u_3), (4, .int u_4), (5, .int u_5), (6, .int u_6)]) : W p l e rm_MN_expand s m args below meth c H locs 0 0 (MQ below (qz_MN_expand dC dI q_this q_values q_p0 k_values k_p0 x_p0 post A) args s 0 0 A) (F0 m 39 ls []) := by
  have C1 := C0
  obtain ⟨hx, hb, hr, hml, hown, hts, hlocks⟩ := C1
  refine hw (fun (x_values : Nat → Int64) (u_6 : Int32) => ∀ (H : Heap) (locs : List Loc) (ls : Array Slot), va_P (dC, dI) zz_cl [(q_this, .inr (0, [.ref q_values, .int x_rowSets])), (q_values, .inl (k_values, 256, .inr (.inl x_values))), (q_p0, .inl (k_p0, 16, .inl x_p0))] H → va_D A [(q_this, .inr (0, [.ref q_values, .int x_rowSets])), (q_values, .inl (k_values, 256, .inr (.inl x_values))), (q_p0, .inl (k_p0, 16, .inl x_p0))] → va_S A s.heap H locs → lv_has ls 7 [(0, .ref q_this), (1, .ref q_p0), (2, .int u_2), (3, .int u_3), (4, .int u_4), (5, .int u_5), (6, .int u_6)] → W p l e rm_MN_expand s m args below meth c H locs 0 0 (MQ below (qz_MN_expand dC dI q_this q_values q_p0 k_values k_p0 x_p0 post A) args s 0 0 A) (F0 m 39 ls [])) ?_ H locs ls hP hD hS hl
  clear hw hP hD hS hl H locs ls
  intro x_values u_6 hw H locs ls hP hD hS hl
  unfold wp_MN_expand_39b at hw
  refine lv_iload hx hb d_MN_expand_39 (lv_at hl 6 rfl) ?_
  refine lv_bipush (v := 16) hx hb d_MN_expand_41 (by decide) ?_
  refine lv_icmp_ge (tgt := 93) hx hb d_MN_expand_43 (by decide) (fun h_8 => ?_) (fun h_8 => ?_)
  · replace hw := hw.1 h_8
    obtain ⟨v_9, ev_9⟩ : ∃ y : Int32, y = u_5 + 1 := ⟨_, rfl⟩
    replace hw := hw v_9 ev_9
    refine lv_iinc (v := v_9) (lv' := [(5, .int v_9), (0, .ref q_this), (1, .ref q_p0), (2, .int u_2), (3, .int u_3), (4, .int u_4), (6, .int u_6)]) hx hb d_MN_expand_93 hl (k := 5) rfl (by rw [ev_9]; rfl) (by decide) rfl (fun ls hl => ?_)
    refine lv_goto (tgt := 29) hx hb d_MN_expand_96 (by decide) ?_
    exact hg_29 x_values v_9 H locs ls hw hP hD hS (lv_sub hl [1, 2, 3, 4, 5, 0] rfl)
  · replace hw := hw.2 h_8
    refine lv_iload hx hb d_MN_expand_46 (lv_at hl 6 rfl) ?_
    refine go_IN_bitCount (wr := [(q_this, .inr (0, [.ref q_values, .int x_rowSets])), (q_values, .inl (k_values, 256, .inr (.inl x_values))), (q_p0, .inl (k_p0, 16, .inl x_p0))]) ⟨hx, hb, hml, hown, hts⟩ (zz_cwS 1 hts tw_410 tw_408 tw_409 tw_43 ⟨by decide, by decide, by decide +kernel⟩ ⟨Nat.le_of_ble_eq_true rfl, Nat.le_of_ble_eq_true rfl⟩) hK hP hD hS hA [] [0, 1, 2] [] rfl rfl (by decide) rfl (by decide) (by decide) rfl hw hl.1 (Nat.le_of_ble_eq_true rfl) d_MN_expand_48 ⟨Nat.le_of_ble_eq_true rfl, Nat.le_of_ble_eq_true rfl⟩ (fun r_10 H locs hw hP hD hS => ?_)
    replace hP : va_P (dC, dI) zz_cl [(q_this, .inr (0, [.ref q_values, .int x_rowSets])), (q_values, .inl (k_values, 256, .inr (.inl x_values))), (q_p0, .inl (k_p0, 16, .inl x_p0))] H := hP
    replace hD : va_D A [(q_this, .inr (0, [.ref q_values, .int x_rowSets])), (q_values, .inl (k_values, 256, .inr (.inl x_values))), (q_p0, .inl (k_p0, 16, .inl x_p0))] := hD
    refine lv_iload hx hb d_MN_expand_51 (lv_at hl 5 rfl) ?_
    refine go_IN_bitCount (wr := [(q_this, .inr (0, [.ref q_values, .int x_rowSets])), (q_values, .inl (k_values, 256, .inr (.inl x_values))), (q_p0, .inl (k_p0, 16, .inl x_p0))]) ⟨hx, hb, hml, hown, hts⟩ (zz_cwS 1 hts tw_410 tw_408 tw_409 tw_43 ⟨by decide, by decide, by decide +kernel⟩ ⟨Nat.le_of_ble_eq_true rfl, Nat.le_of_ble_eq_true rfl⟩) hK hP hD hS hA [] [0, 1, 2] [] rfl rfl (by decide) rfl (by decide) (by decide) rfl hw hl.1 (Nat.le_of_ble_eq_true rfl) d_MN_expand_53 ⟨Nat.le_of_ble_eq_true rfl, Nat.le_of_ble_eq_true rfl⟩ (fun r_11 H locs hw hP hD hS => ?_)
    replace hP : va_P (dC, dI) zz_cl [(q_this, .inr (0, [.ref q_values, .int x_rowSets])), (q_values, .inl (k_values, 256, .inr (.inl x_values))), (q_p0, .inl (k_p0, 16, .inl x_p0))] H := hP
    replace hD : va_D A [(q_this, .inr (0, [.ref q_values, .int x_rowSets])), (q_values, .inl (k_values, 256, .inr (.inl x_values))), (q_p0, .inl (k_p0, 16, .inl x_p0))] := hD
    refine lv_iconst (v := 1) hx hb d_MN_expand_56 (by decide) ?_
    refine lv_iadd hx hb d_MN_expand_57 ?_
    refine lv_icmp_ne (tgt := 87) hx hb d_MN_expand_58 (by decide) (fun h_12 => ?_) (fun h_12 => ?_)
    · replace hw := hw.1 h_12
      exact k_MN_expand_87 C0 hA hK hg_16 hg_29 (fun y0 y1 H locs ls h9 h1 h2 h3 h4 => h9 H locs ls h1 h2 h3 h4) hw hP hD hS hl
    · replace hw := hw.2 h_12
      refine lv_aload_n hx hb d_MN_expand_61 rfl (lv_at hl 0 rfl) ?_
      refine va_get (D := (dC, dI)) (ci := 0) (v := .ref q_values) (C := "StructureRows$Minors") (T := T_MN) (N := 2) hx hb hts in_MN hown hK hP 0 rfl rfl 0 (by decide) (hts _ tw_82) (fun _ h9 => h9) rfl d_MN_expand_62 ?_
      refine lv_iload hx hb d_MN_expand_65 (lv_at hl 4 rfl) ?_
      refine lv_iload hx hb d_MN_expand_67 (lv_at hl 5 rfl) ?_
      refine lv_ior hx hb d_MN_expand_69 ?_
      refine lv_bipush (v := 16) hx hb d_MN_expand_70 (by decide) ?_
      refine lv_imul hx hb d_MN_expand_72 ?_
      refine lv_iload hx hb d_MN_expand_73 (lv_at hl 6 rfl) ?_
      refine lv_iadd hx hb d_MN_expand_75 ?_
      refine lv_aload_n hx hb d_MN_expand_76 rfl (lv_at hl 0 rfl) ?_
      refine lv_aload_n hx hb d_MN_expand_77 rfl (lv_at hl 1 rfl) ?_
      refine lv_iload_n hx hb d_MN_expand_78 rfl (lv_at hl 3 rfl) ?_
      refine lv_iload hx hb d_MN_expand_79 (lv_at hl 5 rfl) ?_
      refine lv_iload hx hb d_MN_expand_81 (lv_at hl 6 rfl) ?_
      refine go_MN_alongLastRow (wr := []) ⟨hx, hb, hml, hown, hts⟩ (zz_cwV 4 hts tw_417 tw_414 tw_416 tw_12 tw_33 ⟨by decide, by decide, by decide +kernel⟩ ⟨Nat.le_of_ble_eq_true rfl, Nat.le_of_ble_eq_true rfl⟩) hK hP hD hS hA [0, 1, 2] [] [0, 1] rfl rfl (by decide) rfl (by decide) (by decide) rfl hw hl.1 (Nat.le_of_ble_eq_true rfl) d_MN_expand_83 ⟨Nat.le_of_ble_eq_true rfl, Nat.le_of_ble_eq_true rfl⟩ (fun r_14 H locs hw hP hD hS => ?_)
      replace hP : va_P (dC, dI) zz_cl [(q_this, .inr (0, [.ref q_values, .int x_rowSets])), (q_values, .inl (k_values, 256, .inr (.inl x_values))), (q_p0, .inl (k_p0, 16, .inl x_p0))] H := hP
      replace hD : va_D A [(q_this, .inr (0, [.ref q_values, .int x_rowSets])), (q_values, .inl (k_values, 256, .inr (.inl x_values))), (q_p0, .inl (k_p0, 16, .inl x_p0))] := hD
      obtain ⟨h_15, hw⟩ := hw
      obtain ⟨w_16, ew_16⟩ : ∃ y : Nat → Int64, y = vp_updL x_values (((u_4 ||| u_5) * 16) + u_6).toNatClampNeg r_14 := ⟨_, rfl⟩
      replace hw := hw w_16 ew_16
      refine va_last hx hb hK hP hD hS 1 0 rfl rfl h_15 d_MN_expand_86 (fun H locs hP hD hS => ?_)
      rw [← ew_16] at hP hD
      replace hP : va_P (dC, dI) zz_cl [(q_this, .inr (0, [.ref q_values, .int x_rowSets])), (q_values, .inl (k_values, 256, .inr (.inl w_16))), (q_p0, .inl (k_p0, 16, .inl x_p0))] H := hP
      replace hD : va_D A [(q_this, .inr (0, [.ref q_values, .int x_rowSets])), (q_values, .inl (k_values, 256, .inr (.inl w_16))), (q_p0, .inl (k_p0, 16, .inl x_p0))] := hD
      exact k_MN_expand_87 C0 hA hK hg_16 hg_29 (fun y0 y1 H locs ls h9 h1 h2 h3 h4 => h9 H locs ls h1 h2 h3 h4) hw hP hD hS hl
def wp_MN_expand_29b (x_rowSets : Int32) (x_p0 : Nat → Int32) (u_2 : Int32) (u_3 : Int32) (u_4 : Int32) (post : Int32 → (Nat → Int64) → Prop) (K_16 : (Nat → Int64) → Int32 → Prop) (P : (Nat → Int64) → Int32 → Prop) (x_values : Nat → Int64) (u_5 : Int32) : Prop := (u_4 ≤ u_5 → (∀ v_7 : Int32, v_7 = u_3 + 1 → (K_16 x_values v_7))) ∧ (¬ u_4 ≤ u_5 → (wp_MN_expand_39 x_rowSets x_p0 u_2 u_3 u_4 u_5 post K_16 P x_values 1))
def wp_MN_expand_29 (x_rowSets : Int32) (x_p0 : Nat → Int32) (u_2 : Int32) (u_3 : Int32) (u_4 : Int32) (post : Int32 → (Nat → Int64) → Prop) (K_16 : (Nat → Int64) → Int32 → Prop) (x_values : Nat → Int64) (u_5 : Int32) : Prop := ∀ P : (Nat → Int64) → Int32 → Prop, (∀ (x_values : Nat → Int64) (u_5 : Int32), wp_MN_expand_29b x_rowSets x_p0 u_2 u_3 u_4 post K_16 P x_values u_5 → P x_values u_5) → P x_values u_5
set_option maxHeartbeats 4000000 in
set_option maxRecDepth 100000 in
theorem k_MN_expand_29 {p : Program} {l : Launch} {e : Env} {s : State} {m : MethodId} {args : Array Value} {below : List Frame} {meth : Method} {c : Code} {dC : Nat → ClassId} {dI : Nat → Nat → Nat} {A : Nat → Prop} {q_this q_values q_p0 : Nat} {k_values k_p0 : ClassId} {x_rowSets : Int32} {x_p0 : Nat → Int32} {u_2 : Int32} {u_3 : Int32} {u_4 : Int32} {post : Int32 → (Nat → Int64) → Prop} {K_16 : (Nat → Int64) → Int32 → Prop} (C0 : cx_MN_expand p s m args meth c) (hA : ∀ q : Nat, s.heap.size ≤ q → A q) (hK : va_K (dC, dI) zz_cl [(k_values, .long), (k_p0, .int)] s) (hg_16 : ∀ (x_values : Nat → Int64) (u_3 : Int32) (H : Heap) (locs : List Loc) (ls : Array Slot), K_16 x_values u_3 → va_P (dC, dI) zz_cl [(q_this, .inr (0, [.ref q_values, .int x_rowSets])), (q_values, .inl (k_values, 256, .inr (.inl x_values))), (q_p0, .inl (k_p0, 16, .inl x_p0))] H → va_D A [(q_this, .inr (0, [.ref q_values, .int x_rowSets])), (q_values, .inl (k_values, 256, .inr (.inl x_values))), (q_p0, .inl (k_p0, 16, .inl x_p0))] → va_S A s.heap H locs → lv_has ls 7 [(0, .ref q_this), (1, .ref q_p0), (2, .int u_2), (3, .int u_3)] → W p l e rm_MN_expand s m args below meth c H locs 0 0 (MQ below (qz_MN_expand dC dI q_this q_values q_p0 k_values k_p0 x_p0 post A) args s 0 0 A) (F0 m 16 ls [])) {x_values : Nat → Int64} {u_5 : Int32} (hw : wp_MN_expand_29 x_rowSets x_p0 u_2 u_3 u_4 post K_16 x_values u_5) {H : Heap} {locs : List Loc} {ls : Array Slot} (hP : va_P (dC, dI) zz_cl [(q_this, .inr (0, [.ref q_values, .int x_rowSets])), (q_values, .inl (k_values, 256, .inr (.inl x_values))), (q_p0, .inl (k_p0, 16, .inl x_p0))] H) (hD : va_D A [(q_this, .inr (0, [.ref q_values, .int x_rowSets])), (q_values, .inl (k_values, 256, .inr (.inl x_values))), (q_p0, .inl (k_p0, 16, .inl x_p0))]) (hS : va_S A s.heap H locs) (hl : lv_has ls 7 [(0, .ref q_this), (1, .ref q_p0), (2, .int u_2), (3, .int u_3), (4, .int u_4), (5, .int u_5)]) : W p l e rm_MN_expand s m args below meth c H locs 0 0 (MQ below (qz_MN_expand dC dI q_this q_values q_p0 k_values k_p0 x_p0 post A) args s 0 0 A) (F0 m 29 ls []) := by
  have C1 := C0
  obtain ⟨hx, hb, hr, hml, hown, hts, hlocks⟩ := C1
  refine hw (fun (x_values : Nat → Int64) (u_5 : Int32) => ∀ (H : Heap) (locs : List Loc) (ls : Array Slot), va_P (dC, dI) zz_cl [(q_this, .inr (0, [.ref q_values, .int x_rowSets])), (q_values, .inl (k_values, 256, .inr (.inl x_values))), (q_p0, .inl (k_p0, 16, .inl x_p0))] H → va_D A [(q_this, .inr (0, [.ref q_values, .int x_rowSets])), (q_values, .inl (k_values, 256, .inr (.inl x_values))), (q_p0, .inl (k_p0, 16, .inl x_p0))] → va_S A s.heap H locs → lv_has ls 7 [(0, .ref q_this), (1, .ref q_p0), (2, .int u_2), (3, .int u_3), (4, .int u_4), (5, .int u_5)] → W p l e rm_MN_expand s m args below meth c H locs 0 0 (MQ below (qz_MN_expand dC dI q_this q_values q_p0 k_values k_p0 x_p0 post A) args s 0 0 A) (F0 m 29 ls [])) ?_ H locs ls hP hD hS hl
  clear hw hP hD hS hl H locs ls
  intro x_values u_5 hw H locs ls hP hD hS hl
  unfold wp_MN_expand_29b at hw
  refine lv_iload hx hb d_MN_expand_29 (lv_at hl 5 rfl) ?_
  refine lv_iload hx hb d_MN_expand_31 (lv_at hl 4 rfl) ?_
  refine lv_icmp_ge (tgt := 99) hx hb d_MN_expand_33 (by decide) (fun h_6 => ?_) (fun h_6 => ?_)
  · replace hw := hw.1 h_6
    obtain ⟨v_7, ev_7⟩ : ∃ y : Int32, y = u_3 + 1 := ⟨_, rfl⟩
    replace hw := hw v_7 ev_7
    refine lv_iinc (v := v_7) (lv' := [(3, .int v_7), (0, .ref q_this), (1, .ref q_p0), (2, .int u_2), (4, .int u_4), (5, .int u_5)]) hx hb d_MN_expand_99 hl (k := 3) rfl (by rw [ev_7]; rfl) (by decide) rfl (fun ls hl => ?_)
    refine lv_goto (tgt := 16) hx hb d_MN_expand_102 (by decide) ?_
    exact hg_16 x_values v_7 H locs ls hw hP hD hS (lv_sub hl [1, 2, 3, 0] rfl)
  · replace hw := hw.2 h_6
    refine lv_iconst (v := 1) hx hb d_MN_expand_36 (by decide) ?_
    refine lv_istore (lv' := [(6, .int 1), (0, .ref q_this), (1, .ref q_p0), (2, .int u_2), (3, .int u_3), (4, .int u_4), (5, .int u_5)]) hx hb d_MN_expand_37 hl (by decide) rfl (fun ls hl => ?_)
    exact k_MN_expand_39 C0 hA hK hg_16 (fun y0 y1 H locs ls h9 h1 h2 h3 h4 => h9 H locs ls h1 h2 h3 h4) hw hP hD hS (lv_sub hl [1, 2, 3, 4, 5, 6, 0] rfl)
def wp_MN_expand_16b (x_rowSets : Int32) (x_p0 : Nat → Int32) (u_2 : Int32) (post : Int32 → (Nat → Int64) → Prop)  (P : (Nat → Int64) → Int32 → Prop) (x_values : Nat → Int64) (u_3 : Int32) : Prop := (u_2 ≤ u_3 → (post x_rowSets x_values)) ∧ (¬ u_2 ≤ u_3 → (∀ v_5 : Int32, v_5 = (1 : Int32) <<< (u_3 &&& 31) → (wp_MN_expand_29 x_rowSets x_p0 u_2 u_3 v_5 post P x_values 0)))
def wp_MN_expand_16 (x_rowSets : Int32) (x_p0 : Nat → Int32) (u_2 : Int32) (post : Int32 → (Nat → Int64) → Prop)  (x_values : Nat → Int64) (u_3 : Int32) : Prop := ∀ P : (Nat → Int64) → Int32 → Prop, (∀ (x_values : Nat → Int64) (u_3 : Int32), wp_MN_expand_16b x_rowSets x_p0 u_2 post P x_values u_3 → P x_values u_3) → P x_values u_3
set_option maxHeartbeats 4000000 in
set_option maxRecDepth 100000 in
theorem k_MN_expand_16 {p : Program} {l : Launch} {e : Env} {s : State} {m : MethodId} {args : Array Value} {below : List Frame} {meth : Method} {c : Code} {dC : Nat → ClassId} {dI : Nat → Nat → Nat} {A : Nat → Prop} {q_this q_values q_p0 : Nat} {k_values k_p0 : ClassId} {x_rowSets : Int32} {x_p0 : Nat → Int32} {u_2 : Int32} {post : Int32 → (Nat → Int64) → Prop}  (C0 : cx_MN_expand p s m args meth c) (hA : ∀ q : Nat, s.heap.size ≤ q → A q) (hK : va_K (dC, dI) zz_cl [(k_values, .long), (k_p0, .int)] s) {x_values : Nat → Int64} {u_3 : Int32} (hw : wp_MN_expand_16 x_rowSets x_p0 u_2 post x_values u_3) {H : Heap} {locs : List Loc} {ls : Array Slot} (hP : va_P (dC, dI) zz_cl [(q_this, .inr (0, [.ref q_values, .int x_rowSets])), (q_values, .inl (k_values, 256, .inr (.inl x_values))), (q_p0, .inl (k_p0, 16, .inl x_p0))] H) (hD : va_D A [(q_this, .inr (0, [.ref q_values, .int x_rowSets])), (q_values, .inl (k_values, 256, .inr (.inl x_values))), (q_p0, .inl (k_p0, 16, .inl x_p0))]) (hS : va_S A s.heap H locs) (hl : lv_has ls 7 [(0, .ref q_this), (1, .ref q_p0), (2, .int u_2), (3, .int u_3)]) : W p l e rm_MN_expand s m args below meth c H locs 0 0 (MQ below (qz_MN_expand dC dI q_this q_values q_p0 k_values k_p0 x_p0 post A) args s 0 0 A) (F0 m 16 ls []) := by
  have C1 := C0
  obtain ⟨hx, hb, hr, hml, hown, hts, hlocks⟩ := C1
  refine hw (fun (x_values : Nat → Int64) (u_3 : Int32) => ∀ (H : Heap) (locs : List Loc) (ls : Array Slot), va_P (dC, dI) zz_cl [(q_this, .inr (0, [.ref q_values, .int x_rowSets])), (q_values, .inl (k_values, 256, .inr (.inl x_values))), (q_p0, .inl (k_p0, 16, .inl x_p0))] H → va_D A [(q_this, .inr (0, [.ref q_values, .int x_rowSets])), (q_values, .inl (k_values, 256, .inr (.inl x_values))), (q_p0, .inl (k_p0, 16, .inl x_p0))] → va_S A s.heap H locs → lv_has ls 7 [(0, .ref q_this), (1, .ref q_p0), (2, .int u_2), (3, .int u_3)] → W p l e rm_MN_expand s m args below meth c H locs 0 0 (MQ below (qz_MN_expand dC dI q_this q_values q_p0 k_values k_p0 x_p0 post A) args s 0 0 A) (F0 m 16 ls [])) ?_ H locs ls hP hD hS hl
  clear hw hP hD hS hl H locs ls
  intro x_values u_3 hw H locs ls hP hD hS hl
  unfold wp_MN_expand_16b at hw
  refine lv_iload_n hx hb d_MN_expand_16 rfl (lv_at hl 3 rfl) ?_
  refine lv_iload_n hx hb d_MN_expand_17 rfl (lv_at hl 2 rfl) ?_
  refine lv_icmp_ge (tgt := 105) hx hb d_MN_expand_18 (by decide) (fun h_4 => ?_) (fun h_4 => ?_)
  · replace hw := hw.1 h_4
    exact W.vret hx hb hr (fun t ht hW => ⟨⟨(x_rowSets, x_values), rfl, hw, by rw [ht]; exact hP, va_K.moved hW.alike hK, hD⟩, hS.F ht⟩) hS.2.2 d_MN_expand_105
  · replace hw := hw.2 h_4
    refine lv_iconst (v := 1) hx hb d_MN_expand_21 (by decide) ?_
    refine lv_iload_n hx hb d_MN_expand_22 rfl (lv_at hl 3 rfl) ?_
    refine lv_ishl hx hb d_MN_expand_23 ?_
    refine lv_topi (fun v_5 ev_5 => ?_)
    replace hw := hw v_5 ev_5
    refine lv_istore (lv' := [(4, .int v_5), (0, .ref q_this), (1, .ref q_p0), (2, .int u_2), (3, .int u_3)]) hx hb d_MN_expand_24 hl (by decide) rfl (fun ls hl => ?_)
    refine lv_iconst (v := 0) hx hb d_MN_expand_26 (by decide) ?_
    refine lv_istore (lv' := [(5, .int 0), (4, .int v_5), (0, .ref q_this), (1, .ref q_p0), (2, .int u_2), (3, .int u_3)]) hx hb d_MN_expand_27 hl (by decide) rfl (fun ls hl => ?_)
    exact k_MN_expand_29 C0 hA hK (fun y0 y1 H locs ls h9 h1 h2 h3 h4 => h9 H locs ls h1 h2 h3 h4) hw hP hD hS (lv_sub hl [2, 3, 4, 5, 1, 0] rfl)
def wp_MN_expand (x_rowSets : Int32) (x_values : Nat → Int64) (x_p0 : Nat → Int32) (a_1 : Int32) (post : Int32 → (Nat → Int64) → Prop) : Prop := vp_in (0 : Int32) 256 ∧ ∀ w_2 : Nat → Int64, w_2 = vp_updL x_values (0 : Int32).toNatClampNeg 1 → (∀ v_3 : Int32, v_3 = (1 : Int32) <<< (a_1 &&& 31) → (wp_MN_expand_16 v_3 x_p0 a_1 post w_2 0))
set_option maxHeartbeats 4000000 in
set_option maxRecDepth 100000 in
theorem c_MN_expand (l : Launch) (dC : Nat → ClassId) (dI : Nat → Nat → Nat) (q_this q_values q_p0 : Nat) (k_values k_p0 : ClassId) (sz : Nat) (x_rowSets : Int32) (x_values : Nat → Int64) (x_p0 : Nat → Int32) (a_1 : Int32) (post : Int32 → (Nat → Int64) → Prop) (hw : wp_MN_expand x_rowSets x_values x_p0 a_1 post) : Met l y_MN_expand (zz_w y_MN_expand b_MN_expand 7 none) rm_MN_expand (va_Pc [.ref q_this, .ref q_p0, .int a_1] (fun U => U.heap.size = sz ∧ va_P (dC, dI) zz_cl [(q_this, .inr (0, [.ref q_values, .int x_rowSets])), (q_values, .inl (k_values, 256, .inr (.inl x_values))), (q_p0, .inl (k_p0, 16, .inl x_p0))] U.heap ∧ va_K (dC, dI) zz_cl [(k_values, .long), (k_p0, .int)] U ∧ va_D (fun _ => True) [(q_this, .inr (0, [.ref q_values, .int x_rowSets])), (q_values, .inl (k_values, 256, .inr (.inl x_values))), (q_p0, .inl (k_p0, 16, .inl x_p0))])) (qz_MN_expand dC dI q_this q_values q_p0 k_values k_p0 x_p0 post (va_A [(q_this, .inr (0, [.ref q_values, .int x_rowSets])), (q_values, .inl (k_values, 256, .inr (.inl x_values))), (q_p0, .inl (k_p0, 16, .inl x_p0))] sz)) 0 0 (va_A [(q_this, .inr (0, [.ref q_values, .int x_rowSets])), (q_values, .inl (k_values, 256, .inr (.inl x_values))), (q_p0, .inl (k_p0, 16, .inl x_p0))] sz) := by
  refine Met.ofW (cc := b_MN_expand) (maxL := 7) (ret := none) (by decide) rfl ?_
  intro p e s m args below meth c s₁ B hml hv
  obtain ⟨rfl, hsz, hP, hK, hD0⟩ := hv
  have hx := B.exec
  have hb := B.bytes
  have hr := B.returns
  have hts0 := atoms_spec (ws := (zz_w y_MN_expand b_MN_expand 7 none)) B.pre
  have hts : ∀ w ∈ zz_GW, w.before _ s = true := fun w h => hts0 w (List.mem_cons_of_mem _ h)
  clear hts0
  have hown : s.vm.findClass "StructureRows$Minors" = some m.cls := findClass_of_methodNamed B.named
  have hlocks := B.notSynchronized
  have C0 : cx_MN_expand p s m _ meth c := ⟨hx, hb, hr, hml, hown, hts, hlocks⟩
  subst hsz
  have hD := hD0.self (sz := s.heap.size)
  generalize hAe : va_A [(q_this, .inr (0, [.ref q_values, .int x_rowSets])), (q_values, .inl (k_values, 256, .inr (.inl x_values))), (q_p0, .inl (k_p0, 16, .inl x_p0))] s.heap.size = A at hD ⊢
  have hA : ∀ q : Nat, s.heap.size ≤ q → A q := fun q h => by rw [← hAe]; exact Or.inr h
  clear hAe hD0
  have hS : va_S A s.heap s.heap [] := va_S.rf
  have hl := lv_entry ([.ref q_this, .ref q_p0, .int a_1]) (n := 7) (Nat.le_of_ble_eq_true rfl)
  rw [lg_entry_eq]
  generalize (lg_sl ([.ref q_this, .ref q_p0, .int a_1]) ++ List.replicate (7 - (lg_sl ([.ref q_this, .ref q_p0, .int a_1])).length) Slot.unset).toArray = ls at hl ⊢
  replace hl : lv_has ls 7 [(0, .ref q_this), (1, .ref q_p0), (2, .int a_1)] := hl
  unfold wp_MN_expand at hw
  change W p l e rm_MN_expand s m _ below meth c s.heap [] 0 0 _ _
  refine lv_aload_n hx hb d_MN_expand_0 rfl (lv_at hl 0 rfl) ?_
  refine va_get (D := (dC, dI)) (ci := 0) (v := .ref q_values) (C := "StructureRows$Minors") (T := T_MN) (N := 2) hx hb hts in_MN hown hK hP 0 rfl rfl 0 (by decide) (hts _ tw_82) (fun _ h9 => h9) rfl d_MN_expand_1 ?_
  refine lv_iconst (v := 0) hx hb d_MN_expand_4 (by decide) ?_
  refine lv_lconst (v := 1) hx hb d_MN_expand_5 (by decide) ?_
  obtain ⟨h_1, hw⟩ := hw
  obtain ⟨w_2, ew_2⟩ : ∃ y : Nat → Int64, y = vp_updL x_values (0 : Int32).toNatClampNeg 1 := ⟨_, rfl⟩
  replace hw := hw w_2 ew_2
  refine va_last hx hb hK hP hD hS 1 0 rfl rfl h_1 d_MN_expand_6 (fun H locs hP hD hS => ?_)
  rw [← ew_2] at hP hD
  replace hP : va_P (dC, dI) zz_cl [(q_this, .inr (0, [.ref q_values, .int x_rowSets])), (q_values, .inl (k_values, 256, .inr (.inl w_2))), (q_p0, .inl (k_p0, 16, .inl x_p0))] H := hP
  replace hD : va_D A [(q_this, .inr (0, [.ref q_values, .int x_rowSets])), (q_values, .inl (k_values, 256, .inr (.inl w_2))), (q_p0, .inl (k_p0, 16, .inl x_p0))] := hD
  refine lv_aload_n hx hb d_MN_expand_7 rfl (lv_at hl 0 rfl) ?_
  refine lv_iconst (v := 1) hx hb d_MN_expand_8 (by decide) ?_
  refine lv_iload_n hx hb d_MN_expand_9 rfl (lv_at hl 2 rfl) ?_
  refine lv_ishl hx hb d_MN_expand_10 ?_
  refine lv_topi (fun v_3 ev_3 => ?_)
  replace hw := hw v_3 ev_3
  refine va_put (D := (dC, dI)) (ci := 0) (v := .int v_3) (ty := .int) (C := "StructureRows$Minors") (T := T_MN) (N := 2) hx hb hts in_MN ty_MN tyok_MN nm_MN hown hK hP hD hS 0 rfl rfl 1 (by decide) (hts _ tw_83) (fun _ h9 => h9) rfl (by decide +kernel) rfl rfl (Nat.le_of_ble_eq_true rfl) d_MN_expand_11 (fun H locs hP hD hS => ?_)
  replace hP : va_P (dC, dI) zz_cl [(q_this, .inr (0, [.ref q_values, .int v_3])), (q_values, .inl (k_values, 256, .inr (.inl w_2))), (q_p0, .inl (k_p0, 16, .inl x_p0))] H := hP
  replace hD : va_D A [(q_this, .inr (0, [.ref q_values, .int v_3])), (q_values, .inl (k_values, 256, .inr (.inl w_2))), (q_p0, .inl (k_p0, 16, .inl x_p0))] := hD
  refine lv_iconst (v := 0) hx hb d_MN_expand_14 (by decide) ?_
  refine lv_istore_n (lv' := [(3, .int 0), (0, .ref q_this), (1, .ref q_p0), (2, .int a_1)]) hx hb d_MN_expand_15 rfl hl (by decide) rfl (fun ls hl => ?_)
  exact k_MN_expand_16 C0 hA hK hw hP hD hS (lv_sub hl [1, 2, 3, 0] rfl)
set_option maxHeartbeats 4000000 in
set_option maxRecDepth 100000 in
theorem go_MN_expand {p : Program} {l : Launch} {e : Env} {R : Room} {s : State} {m : MethodId} {args : Array Value} {below : List Frame} {meth : Method} {c : Code} {H : Heap} {locs : List Loc} {cells slots : Nat} {Q : State → Prop} {cc : ByteArray} {nL : Nat} {Ts : List Cond} {own : String} {index : Nat} {A0 : Nat → Prop} {H0 : Heap} {dC : Nat → ClassId} {dI : Nat → Nat → Nat} {ws wr : va_W} {tys : List (ClassId × FieldType)} {q_this q_values q_p0 : Nat} {k_values k_p0 : ClassId} {x_rowSets : Int32} {x_values : Nat → Int64} {x_p0 : Nat → Int32} {a_1 : Int32} {post : Int32 → (Nat → Int64) → Prop} (S : CallFix p m c cc nL s args Ts own) (cw : CallW R s args own "StructureRows$Minors" index y_MN_expand b_MN_expand 7 none (zz_w y_MN_expand b_MN_expand 7 none) rm_MN_expand 0 0 2) (hK : va_K (dC, dI) zz_cl tys s) (hP : va_P (dC, dI) zz_cl ws H) (hD : va_D A0 ws) (hS : va_S A0 H0 H locs) (hA : ∀ q, H0.size ≤ q → A0 q) (isC isR kt : List Nat) (h1 : isC.filterMap (fun i => ws[i]?) = [(q_this, .inr (0, [.ref q_values, .int x_rowSets])), (q_values, .inl (k_values, 256, .inr (.inl x_values))), (q_p0, .inl (k_p0, 16, .inl x_p0))]) (h2 : isC.map (fun i => ws[i]?) = ([(q_this, .inr (0, [.ref q_values, .int x_rowSets])), (q_values, .inl (k_values, 256, .inr (.inl x_values))), (q_p0, .inl (k_p0, 16, .inl x_p0))] : va_W).map some) (h3 : va_nd isC = true) (h4 : isR.map (fun i => ws[i]?) = wr.map some) (h5 : va_nd isR = true) (h6 : ∀ i ∈ isR, i ∉ isC) (h7 : kt.filterMap (fun i => tys[i]?) = [(k_values, .long), (k_p0, .int)]) (hw : wp_MN_expand x_rowSets x_values x_p0 a_1 post) {pc : Nat} {ls : Array Slot} {rest : List Value} (hsize : ls.size = nL) (hrest : (rest.map fun v => v.category).sum ≤ 8) (hdg : decode cc pc = .ok (.invokevirtual index, 3)) (hf : cells + 0 ≤ R.cells ∧ slots + 0 ≤ R.slots) (kk : ∀ (m0 : Int32) (m1 : Nat → Int64) (H1 : Heap) (locs1 : List Loc), post m0 m1 → va_P (dC, dI) zz_cl (wr ++ [(q_this, .inr (0, [.ref q_values, .int m0])), (q_values, .inl (k_values, 256, .inr (.inl m1))), (q_p0, .inl (k_p0, 16, .inl x_p0))]) H1 → va_D A0 (wr ++ [(q_this, .inr (0, [.ref q_values, .int m0])), (q_values, .inl (k_values, 256, .inr (.inl m1))), (q_p0, .inl (k_p0, 16, .inl x_p0))]) → va_S A0 H0 H1 locs1 → W p l e R s m args below meth c H1 locs1 (cells + 0) (slots + 0) Q (F0 m (pc + 3) ls rest)) : W p l e R s m args below meth c H locs cells slots Q (F0 m pc ls (.int a_1 :: .ref q_p0 :: .ref q_this :: rest)) := by
  have hPc := hP.sub (ws' := [(q_this, .inr (0, [.ref q_values, .int x_rowSets])), (q_values, .inl (k_values, 256, .inr (.inl x_values))), (q_p0, .inl (k_p0, 16, .inl x_p0))]) isC h1
  have hDc := hD.sub (ws' := [(q_this, .inr (0, [.ref q_values, .int x_rowSets])), (q_values, .inl (k_values, 256, .inr (.inl x_values))), (q_p0, .inl (k_p0, 16, .inl x_p0))]) isC h3 h2
  have hKc := hK.sub (tys' := [(k_values, .long), (k_p0, .int)]) kt h7
  have hFc := va_free (wc := [(q_this, .inr (0, [.ref q_values, .int x_rowSets])), (q_values, .inl (k_values, 256, .inr (.inl x_values))), (q_p0, .inl (k_p0, 16, .inl x_p0))]) hD hS hA isC h2
  refine va_callv (va_runV (As := [.ref q_p0, .int a_1]) (rest := rest) S (c_MN_expand l dC dI q_this q_values q_p0 k_values k_p0 H.size x_rowSets x_values x_p0 a_1 post hw) cw ⟨zz_blind, va_recv hKc hPc (ci := 0) (q0 := 0) rfl rfl, fun U hU hW => ⟨rfl, by rw [hU], by rw [hU]; exact hPc, va_K.moved hW.alike hKc, hDc.weaken (fun _ _ _ _ => trivial)⟩⟩ rfl rfl hsize rfl (lv_room hrest) hdg hf) hS (fun q _ h => hFc q h) hFc (fun u t H1 locs ht hvm hw hB hz1 hk1 hS => ?_)
  obtain ⟨hP1, hK1, hD1⟩ := hB
  rw [ht] at hP1
  obtain ⟨hP2, hD2⟩ := va_join (wr := wr) (w1 := [(q_this, .inr (0, [.ref q_values, .int u.1])), (q_values, .inl (k_values, 256, .inr (.inl u.2))), (q_p0, .inl (k_p0, 16, .inl x_p0))]) hP hD isC isR h2 h4 h5 h6 hk1 hFc hP1 hD1
  exact kk u.1 u.2 H1 locs hw hP2 hD2 hS
