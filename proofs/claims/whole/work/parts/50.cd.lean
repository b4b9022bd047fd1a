abbrev rm_MA_abs : Room := { frames := 0, cells := 0, slots := 0, locals := 0 }
abbrev qz_MA_abs (dC : Nat → ClassId) (dI : Nat → Nat → Nat)  (post : Int64 → Prop) (A : Nat → Prop) : Array Value → State → Outcome → State → Prop := va_Ql (fun (r : Int64) (_ : Unit) => post r) (fun (u : Unit) (t : State) => va_P (dC, dI) zz_cl [] t.heap ∧ va_K (dC, dI) zz_cl [] t ∧ va_D A []) A
def cx_MA_abs (p : Program) (s : State) (m : MethodId) (args : Array Value) (meth : Method) (c : Code) : Prop := p.tables.exec = Jvm.exec ∧ c.code = b_MA_abs ∧ meth.sig.returnType = (some .long) ∧ c.maxLocals = 2 ∧ s.vm.findClass "java/lang/Math" = some m.cls ∧ (∀ w ∈ zz_GW, w.before args s = true) ∧ meth.locks = false
def wp_MA_abs  (a_0 : Int64) (post : Int64 → Prop) : Prop := (0 ≤ (lg_cmp a_0 0) → (post a_0)) ∧ (¬ 0 ≤ (lg_cmp a_0 0) → (post (-a_0)))
set_option maxHeartbeats 4000000 in
set_option maxRecDepth 100000 in
theorem c_MA_abs (l : Launch) (dC : Nat → ClassId) (dI : Nat → Nat → Nat) (sz : Nat)  (a_0 : Int64) (post : Int64 → Prop) (hw : wp_MA_abs a_0 post) : Met l y_MA_abs (zz_w y_MA_abs b_MA_abs 2 (some .long)) rm_MA_abs (va_Pc [.long a_0] (fun U => U.heap.size = sz ∧ va_P (dC, dI) zz_cl [] U.heap ∧ va_K (dC, dI) zz_cl [] U ∧ va_D (fun _ => True) [])) (qz_MA_abs dC dI post (va_A [] sz)) 0 0 (va_A [] sz) := by
  refine va_MetF (cc := b_MA_abs) (maxL := 2) (ret := (some .long)) (by decide +kernel) rfl ?_
  intro p e s m args below meth c s₁ B hml hv
  obtain ⟨rfl, hsz, hP, hK, hD0⟩ := hv
  have hx := B.exec
  have hb := B.bytes
  have hr := B.returns
  have hts0 := atoms_spec (ws := (zz_w y_MA_abs b_MA_abs 2 (some .long))) B.pre
  have hts : ∀ w ∈ zz_GW, w.before _ s = true := fun w h => hts0 w (List.mem_cons_of_mem _ h)
  clear hts0
  have hown : s.vm.findClass "java/lang/Math" = some m.cls := findClass_of_methodNamed B.named
  have hlocks := B.notSynchronized
  have C0 : cx_MA_abs p s m _ meth c := ⟨hx, hb, hr, hml, hown, hts, hlocks⟩
  subst hsz
  have hD := hD0.self (sz := s.heap.size)
  generalize hAe : va_A [] s.heap.size = A at hD ⊢
  have hA : ∀ q : Nat, s.heap.size ≤ q → A q := fun q h => by rw [← hAe]; exact Or.inr h
  clear hAe hD0
  have hS : va_S A s.heap s.heap [] := va_S.rf
  have hl := lv_entry ([.long a_0]) (n := 2) (Nat.le_of_ble_eq_true rfl)
  rw [lg_entry_eq]
  generalize (lg_sl ([.long a_0]) ++ List.replicate (2 - (lg_sl ([.long a_0])).length) Slot.unset).toArray = ls at hl ⊢
  replace hl : lv_has ls 2 [(0, .long a_0)] := hl
  unfold wp_MA_abs at hw
  change W p l e rm_MA_abs s m _ below meth c s.heap [] 0 0 _ _
  refine lv_lload_n hx hb d_MA_abs_0 rfl (lv_at hl 0 rfl) ?_
  refine lv_lconst (v := 0) hx hb d_MA_abs_1 (by decide) ?_
  refine W.lcmp hx hb d_MA_abs_2 ?_
  refine lv_if_ge (tgt := 11) hx hb d_MA_abs_3 (by decide) (fun h_1 => ?_) (fun h_1 => ?_)
  · replace hw := hw.1 h_1
    refine lv_lload_n hx hb d_MA_abs_11 rfl (lv_at hl 0 rfl) ?_
    exact W.lret (v := a_0) hx hb hr (fun t ht hW => ⟨⟨a_0, (), rfl, hw, by rw [ht]; exact hP, va_K.moved hW.alike hK, hD⟩, hS.F ht⟩) hS.2.2 d_MA_abs_12
  · replace hw := hw.2 h_1
    refine lv_lload_n hx hb d_MA_abs_6 rfl (lv_at hl 0 rfl) ?_
    refine lv_lneg hx hb d_MA_abs_7 ?_
    refine lv_goto (tgt := 12) hx hb d_MA_abs_8 (by decide) ?_
    exact W.lret (v := -a_0) hx hb hr (fun t ht hW => ⟨⟨-a_0, (), rfl, hw, by rw [ht]; exact hP, va_K.moved hW.alike hK, hD⟩, hS.F ht⟩) hS.2.2 d_MA_abs_12
set_option maxHeartbeats 4000000 in
set_option maxRecDepth 100000 in
theorem go_MA_abs {p : Program} {l : Launch} {e : Env} {R : Room} {s : State} {m : MethodId} {args : Array Value} {below : List Frame} {meth : Method} {c : Code} {H : Heap} {locs : List Loc} {cells slots : Nat} {Q : State → Prop} {cc : ByteArray} {nL : Nat} {Ts : List Cond} {own : String} {index : Nat} {A0 : Nat → Prop} {H0 : Heap} {dC : Nat → ClassId} {dI : Nat → Nat → Nat} {ws wr : va_W} {tys : List (ClassId × FieldType)}  {a_0 : Int64} {post : Int64 → Prop} (S : CallFix p m c cc nL s args Ts own) (cw : CallB R s args own index y_MA_abs b_MA_abs 2 (some .long) (zz_w y_MA_abs b_MA_abs 2 (some .long)) rm_MA_abs 0 0 1 ∧ (Cond.static y_MA_abs).before args s = true) (hK : va_K (dC, dI) zz_cl tys s) (hP : va_P (dC, dI) zz_cl ws H) (hD : va_D A0 ws) (hS : va_S A0 H0 H locs) (hA : ∀ q, H0.size ≤ q → A0 q) (isC isR kt : List Nat) (h1 : isC.filterMap (fun i => ws[i]?) = []) (h2 : isC.map (fun i => ws[i]?) = ([] : va_W).map some) (h3 : va_nd isC = true) (h4 : isR.map (fun i => ws[i]?) = wr.map some) (h5 : va_nd isR = true) (h6 : ∀ i ∈ isR, i ∉ isC) (h7 : kt.filterMap (fun i => tys[i]?) = []) (hw : wp_MA_abs a_0 post) {pc : Nat} {ls : Array Slot} {rest : List Value} (hsize : ls.size = nL) (hrest : (rest.map fun v => v.category).sum ≤ 8) (hdg : decode cc pc = .ok (.invokestatic index, 3)) (hf : cells + 0 ≤ R.cells ∧ slots + 0 ≤ R.slots) (kk : ∀ (r : Int64) (H1 : Heap) (locs1 : List Loc), post r → va_P (dC, dI) zz_cl (wr ++ []) H1 → va_D A0 (wr ++ []) → va_S A0 H0 H1 locs1 → W p l e R s m args below meth c H1 locs1 (cells + 0) (slots + 0) Q (F0 m (pc + 3) ls (.long r :: rest))) : W p l e R s m args below meth c H locs cells slots Q (F0 m pc ls (.long a_0 :: rest)) := by
  have hPc := hP.sub (ws' := []) isC h1
  have hDc := hD.sub (ws' := []) isC h3 h2
  have hKc := hK.sub (tys' := []) kt h7
  have hFc := va_free (wc := []) hD hS hA isC h2
  refine va_calll (va_runS (As := [.long a_0]) (rest := rest) S (c_MA_abs l dC dI H.size a_0 post hw) cw ⟨zz_blind, fun U hU hW => ⟨rfl, by rw [hU], by rw [hU]; exact hPc, va_K.moved hW.alike hKc, hDc.weaken (fun _ _ _ _ => trivial)⟩⟩ rfl rfl hsize rfl (lv_room hrest) hdg hf) hS (fun q _ h => hFc q h) hFc (fun r u t H1 locs ht hvm hw hB hz1 hk1 hS => ?_)
  obtain ⟨hP1, hK1, hD1⟩ := hB
  rw [ht] at hP1
  obtain ⟨hP2, hD2⟩ := va_join (wr := wr) (w1 := []) hP hD isC isR h2 h4 h5 h6 hk1 hFc hP1 hD1
  exact kk r H1 locs hw hP2 hD2 hS
abbrev rm_SR_commonDivisor : Room := { frames := 1, cells := 0, slots := 0, locals := 21 }
abbrev qz_SR_commonDivisor (dC : Nat → ClassId) (dI : Nat → Nat → Nat)  (post : Int64 → Prop) (A : Nat → Prop) : Array Value → State → Outcome → State → Prop := va_Ql (fun (r : Int64) (_ : Unit) => post r) (fun (u : Unit) (t : State) => va_P (dC, dI) zz_cl [] t.heap ∧ va_K (dC, dI) zz_cl [] t ∧ va_D A []) A
def cx_SR_commonDivisor (p : Program) (s : State) (m : MethodId) (args : Array Value) (meth : Method) (c : Code) : Prop := p.tables.exec = Jvm.exec ∧ c.code = b_SR_commonDivisor ∧ meth.sig.returnType = (some .long) ∧ c.maxLocals = 11 ∧ s.vm.findClass "StructureRows" = some m.cls ∧ (∀ w ∈ zz_GW, w.before args s = true) ∧ meth.locks = false
def wp_SR_commonDivisor_15b  (post : Int64 → Prop)  (P : Int64 → Int64 → Int32 → Prop) (u_4 : Int64) (u_6 : Int64) (u_8 : Int32) : Prop := (1000 ≤ u_8 → (post u_4)) ∧ (¬ 1000 ≤ u_8 → (((lg_cmp u_6 0) = 0 → (post u_4)) ∧ (¬ (lg_cmp u_6 0) = 0 → (¬ u_6 = 0 ∧ (∀ v_6 : Int64, v_6 = u_4 - u_4 / u_6 * u_6 → (∀ v_7 : Int32, v_7 = u_8 + 1 → (P u_6 v_6 v_7)))))))
def wp_SR_commonDivisor_15  (post : Int64 → Prop)  (u_4 : Int64) (u_6 : Int64) (u_8 : Int32) : Prop := ∀ P : Int64 → Int64 → Int32 → Prop, (∀ (u_4 : Int64) (u_6 : Int64) (u_8 : Int32), wp_SR_commonDivisor_15b post P u_4 u_6 u_8 → P u_4 u_6 u_8) → P u_4 u_6 u_8
set_option maxHeartbeats 4000000 in
set_option maxRecDepth 100000 in
theorem k_SR_commonDivisor_15 {p : Program} {l : Launch} {e : Env} {s : State} {m : MethodId} {args : Array Value} {below : List Frame} {meth : Method} {c : Code} {dC : Nat → ClassId} {dI : Nat → Nat → Nat} {A : Nat → Prop}  {post : Int64 → Prop}  (C0 : cx_SR_commonDivisor p s m args meth c) (hA : ∀ q : Nat, s.heap.size ≤ q → A q) (hK : va_K (dC, dI) zz_cl [] s) {u_4 : Int64} {u_6 : Int64} {u_8 : Int32} (hw : wp_SR_commonDivisor_15 post u_4 u_6 u_8) {H : Heap} {locs : List Loc} {ls : Array Slot} (hP : va_P (dC, dI) zz_cl [] H) (hD : va_D A []) (hS : va_S A s.heap H locs) (hl : lv_has ls 11 [(4, .long u_4), (6, .long u_6), (8, .int u_8)]) : W p l e rm_SR_commonDivisor s m args below meth c H locs 0 0 (MQ below (qz_SR_commonDivisor dC dI post A) args s 0 0 A) (F0 m 15 ls []) := by
  have C1 := C0
  obtain ⟨hx, hb, hr, hml, hown, hts, hlocks⟩ := C1
  refine hw (fun (u_4 : Int64) (u_6 : Int64) (u_8 : Int32) => ∀ (H : Heap) (locs : List Loc) (ls : Array Slot), va_P (dC, dI) zz_cl [] H → va_D A [] → va_S A s.heap H locs → lv_has ls 11 [(4, .long u_4), (6, .long u_6), (8, .int u_8)] → W p l e rm_SR_commonDivisor s m args below meth c H locs 0 0 (MQ below (qz_SR_commonDivisor dC dI post A) args s 0 0 A) (F0 m 15 ls [])) ?_ H locs ls hP hD hS hl
  clear hw hP hD hS hl H locs ls
  intro u_4 u_6 u_8 hw H locs ls hP hD hS hl
  unfold wp_SR_commonDivisor_15b at hw
  refine lv_iload hx hb d_SR_commonDivisor_15 (lv_at hl 2 rfl) ?_
  refine lv_sipush (v := 1000) hx hb d_SR_commonDivisor_17 (by decide) ?_
  refine lv_icmp_ge (tgt := 51) hx hb d_SR_commonDivisor_20 (by decide) (fun h_3 => ?_) (fun h_3 => ?_)
  · replace hw := hw.1 h_3
    refine lv_lload hx hb d_SR_commonDivisor_51 (lv_at hl 0 rfl) ?_
    exact W.lret (v := u_4) hx hb hr (fun t ht hW => ⟨⟨u_4, (), rfl, hw, by rw [ht]; exact hP, va_K.moved hW.alike hK, hD⟩, hS.F ht⟩) hS.2.2 d_SR_commonDivisor_53
  · replace hw := hw.2 h_3
    refine lv_lload hx hb d_SR_commonDivisor_23 (lv_at hl 1 rfl) ?_
    refine lv_lconst (v := 0) hx hb d_SR_commonDivisor_25 (by decide) ?_
    refine W.lcmp hx hb d_SR_commonDivisor_26 ?_
    refine lv_if_eq (tgt := 51) hx hb d_SR_commonDivisor_27 (by decide) (fun h_4 => ?_) (fun h_4 => ?_)
    · replace hw := hw.1 h_4
      refine lv_lload hx hb d_SR_commonDivisor_51 (lv_at hl 0 rfl) ?_
      exact W.lret (v := u_4) hx hb hr (fun t ht hW => ⟨⟨u_4, (), rfl, hw, by rw [ht]; exact hP, va_K.moved hW.alike hK, hD⟩, hS.F ht⟩) hS.2.2 d_SR_commonDivisor_53
    · replace hw := hw.2 h_4
      refine lv_lload hx hb d_SR_commonDivisor_30 (lv_at hl 0 rfl) ?_
      refine lv_lload hx hb d_SR_commonDivisor_32 (lv_at hl 1 rfl) ?_
      obtain ⟨h_5, hw⟩ := hw
      refine lv_lrem hx hb d_SR_commonDivisor_34 h_5 ?_
      refine lv_topl (fun v_6 ev_6 => ?_)
      replace hw := hw v_6 ev_6
      refine lv_lstore (lv' := [(9, .long v_6), (4, .long u_4), (6, .long u_6), (8, .int u_8)]) hx hb d_SR_commonDivisor_35 hl (by decide) rfl (fun ls hl => ?_)
      refine lv_lload hx hb d_SR_commonDivisor_37 (lv_at hl 2 rfl) ?_
      refine lv_lstore (lv' := [(4, .long u_6), (9, .long v_6), (6, .long u_6), (8, .int u_8)]) hx hb d_SR_commonDivisor_39 hl (by decide) rfl (fun ls hl => ?_)
      refine lv_lload hx hb d_SR_commonDivisor_41 (lv_at hl 1 rfl) ?_
      refine lv_lstore (lv' := [(6, .long v_6), (4, .long u_6), (9, .long v_6), (8, .int u_8)]) hx hb d_SR_commonDivisor_43 hl (by decide) rfl (fun ls hl => ?_)
      obtain ⟨v_7, ev_7⟩ : ∃ y : Int32, y = u_8 + 1 := ⟨_, rfl⟩
      replace hw := hw v_7 ev_7
      refine lv_iinc (v := v_7) (lv' := [(8, .int v_7), (6, .long v_6), (4, .long u_6), (9, .long v_6)]) hx hb d_SR_commonDivisor_45 hl (k := 3) rfl (by rw [ev_7]; rfl) (by decide) rfl (fun ls hl => ?_)
      refine lv_goto (tgt := 15) hx hb d_SR_commonDivisor_48 (by decide) ?_
      exact hw H locs ls hP hD hS (lv_sub hl [2, 1, 0] rfl)
def wp_SR_commonDivisor  (a_0 : Int64) (a_1 : Int64) (post : Int64 → Prop) : Prop := wp_MA_abs a_0 (fun (r_1 : Int64) => (wp_MA_abs a_1 (fun (r_2 : Int64) => (wp_SR_commonDivisor_15 post r_1 r_2 0))))
set_option maxHeartbeats 4000000 in
set_option maxRecDepth 100000 in
theorem c_SR_commonDivisor (l : Launch) (dC : Nat → ClassId) (dI : Nat → Nat → Nat) (sz : Nat)  (a_0 : Int64) (a_1 : Int64) (post : Int64 → Prop) (hw : wp_SR_commonDivisor a_0 a_1 post) : Met l y_SR_commonDivisor (zz_w y_SR_commonDivisor b_SR_commonDivisor 11 (some .long)) rm_SR_commonDivisor (va_Pc [.long a_0, .long a_1] (fun U => U.heap.size = sz ∧ va_P (dC, dI) zz_cl [] U.heap ∧ va_K (dC, dI) zz_cl [] U ∧ va_D (fun _ => True) [])) (qz_SR_commonDivisor dC dI post (va_A [] sz)) 0 0 (va_A [] sz) := by
  refine Met.ofW (cc := b_SR_commonDivisor) (maxL := 11) (ret := (some .long)) (by decide) rfl ?_
  intro p e s m args below meth c s₁ B hml hv
  obtain ⟨rfl, hsz, hP, hK, hD0⟩ := hv
  have hx := B.exec
  have hb := B.bytes
  have hr := B.returns
  have hts0 := atoms_spec (ws := (zz_w y_SR_commonDivisor b_SR_commonDivisor 11 (some .long))) B.pre
  have hts : ∀ w ∈ zz_GW, w.before _ s = true := fun w h => hts0 w (List.mem_cons_of_mem _ h)
  clear hts0
  have hown : s.vm.findClass "StructureRows" = some m.cls := findClass_of_methodNamed B.named
  have hlocks := B.notSynchronized
  have C0 : cx_SR_commonDivisor p s m _ meth c := ⟨hx, hb, hr, hml, hown, hts, hlocks⟩
  subst hsz
  have hD := hD0.self (sz := s.heap.size)
  generalize hAe : va_A [] s.heap.size = A at hD ⊢
  have hA : ∀ q : Nat, s.heap.size ≤ q → A q := fun q h => by rw [← hAe]; exact Or.inr h
  clear hAe hD0
  have hS : va_S A s.heap s.heap [] := va_S.rf
  have hl := lv_entry ([.long a_0, .long a_1]) (n := 11) (Nat.le_of_ble_eq_true rfl)
  rw [lg_entry_eq]
  generalize (lg_sl ([.long a_0, .long a_1]) ++ List.replicate (11 - (lg_sl ([.long a_0, .long a_1])).length) Slot.unset).toArray = ls at hl ⊢
  replace hl : lv_has ls 11 [(0, .long a_0), (2, .long a_1)] := hl
  unfold wp_SR_commonDivisor at hw
  change W p l e rm_SR_commonDivisor s m _ below meth c s.heap [] 0 0 _ _
  refine lv_lload_n hx hb d_SR_commonDivisor_0 rfl (lv_at hl 0 rfl) ?_
  refine go_MA_abs (wr := []) ⟨hx, hb, hml, hown, hts⟩ (zz_cwS 1 hts tw_427 tw_425 tw_426 tw_42 ⟨by decide, by decide, by decide +kernel⟩ ⟨Nat.le_of_ble_eq_true rfl, Nat.le_of_ble_eq_true rfl⟩) hK hP hD hS hA [] [] [] rfl rfl (by decide) rfl (by decide) (by decide) rfl hw hl.1 (Nat.le_of_ble_eq_true rfl) d_SR_commonDivisor_1 ⟨Nat.le_of_ble_eq_true rfl, Nat.le_of_ble_eq_true rfl⟩ (fun r_1 H locs hw hP hD hS => ?_)
  replace hP : va_P (dC, dI) zz_cl [] H := hP
  replace hD : va_D A [] := hD
  refine lv_lstore (lv' := [(4, .long r_1), (0, .long a_0), (2, .long a_1)]) hx hb d_SR_commonDivisor_4 hl (by decide) rfl (fun ls hl => ?_)
  refine lv_lload_n hx hb d_SR_commonDivisor_6 rfl (lv_at hl 2 rfl) ?_
  refine go_MA_abs (wr := []) ⟨hx, hb, hml, hown, hts⟩ (zz_cwS 1 hts tw_427 tw_425 tw_426 tw_42 ⟨by decide, by decide, by decide +kernel⟩ ⟨Nat.le_of_ble_eq_true rfl, Nat.le_of_ble_eq_true rfl⟩) hK hP hD hS hA [] [] [] rfl rfl (by decide) rfl (by decide) (by decide) rfl hw hl.1 (Nat.le_of_ble_eq_true rfl) d_SR_commonDivisor_7 ⟨Nat.le_of_ble_eq_true rfl, Nat.le_of_ble_eq_true rfl⟩ (fun r_2 H locs hw hP hD hS => ?_)
  replace hP : va_P (dC, dI) zz_cl [] H := hP
  replace hD : va_D A [] := hD
  refine lv_lstore (lv' := [(6, .long r_2), (4, .long r_1), (0, .long a_0), (2, .long a_1)]) hx hb d_SR_commonDivisor_10 hl (by decide) rfl (fun ls hl => ?_)
  refine lv_iconst (v := 0) hx hb d_SR_commonDivisor_12 (by decide) ?_
  refine lv_istore (lv' := [(8, .int 0), (6, .long r_2), (4, .long r_1), (0, .long a_0), (2, .long a_1)]) hx hb d_SR_commonDivisor_13 hl (by decide) rfl (fun ls hl => ?_)
  exact k_SR_commonDivisor_15 C0 hA hK hw hP hD hS (lv_sub hl [2, 1, 0] rfl)
set_option maxHeartbeats 4000000 in
set_option maxRecDepth 100000 in
theorem go_SR_commonDivisorN {p : Program} {l : Launch} {e : Env} {R : Room} {s : State} {m : MethodId} {args : Array Value} {below : List Frame} {meth : Method} {c : Code} {H : Heap} {locs : List Loc} {cells slots : Nat} {Q : State → Prop} {cc : ByteArray} {nL : Nat} {Ts : List Cond} {own : String} {index : Nat} {A0 : Nat → Prop} {H0 : Heap} {dC : Nat → ClassId} {dI : Nat → Nat → Nat} {ws wr : va_W} {tys : List (ClassId × FieldType)}  {a_0 : Int64} {a_1 : Int64} {post : Int64 → Prop} (S : CallFix p m c cc nL s args Ts own) (cw : va_CN R s args own index y_SR_commonDivisor "StructureRows" b_SR_commonDivisor 11 (some .long) (zz_w y_SR_commonDivisor b_SR_commonDivisor 11 (some .long)) rm_SR_commonDivisor 0 0 2 ∧ (Cond.static y_SR_commonDivisor).before args s = true ∧ True) (hK : va_K (dC, dI) zz_cl tys s) (hP : va_P (dC, dI) zz_cl ws H) (hD : va_D A0 ws) (hS : va_S A0 H0 H locs) (hA : ∀ q, H0.size ≤ q → A0 q) (isC isR kt : List Nat) (h1 : isC.filterMap (fun i => ws[i]?) = []) (h2 : isC.map (fun i => ws[i]?) = ([] : va_W).map some) (h3 : va_nd isC = true) (h4 : isR.map (fun i => ws[i]?) = wr.map some) (h5 : va_nd isR = true) (h6 : ∀ i ∈ isR, i ∉ isC) (h7 : kt.filterMap (fun i => tys[i]?) = []) (hw : wp_SR_commonDivisor a_0 a_1 post) {pc : Nat} {ls : Array Slot} {rest : List Value} (hsize : ls.size = nL) (hrest : (rest.map fun v => v.category).sum ≤ 8) (hdg : decode cc pc = .ok (.invokestatic index, 3)) (hf : cells + 0 ≤ R.cells ∧ slots + 0 ≤ R.slots) (kk : ∀ (r : Int64) (H1 : Heap) (locs1 : List Loc), post r → va_P (dC, dI) zz_cl (wr ++ []) H1 → va_D A0 (wr ++ []) → va_S A0 H0 H1 locs1 → W p l e R s m args below meth c H1 locs1 (cells + 0) (slots + 0) Q (F0 m (pc + 3) ls (.long r :: rest))) : W p l e R s m args below meth c H locs cells slots Q (F0 m pc ls (.long a_1 :: .long a_0 :: rest)) := by
  have hPc := hP.sub (ws' := []) isC h1
  have hDc := hD.sub (ws' := []) isC h3 h2
  have hKc := hK.sub (tys' := []) kt h7
  have hFc := va_free (wc := []) hD hS hA isC h2
  refine va_calll (va_runSN (As := [.long a_0, .long a_1]) (rest := rest) S (c_SR_commonDivisor l dC dI H.size a_0 a_1 post hw) cw ⟨zz_blind, fun U hU hW => ⟨rfl, by rw [hU], by rw [hU]; exact hPc, va_K.moved hW.alike hKc, hDc.weaken (fun _ _ _ _ => trivial)⟩⟩ rfl rfl hsize rfl (lv_room hrest) hdg hf) hS (fun q _ h => hFc q h) hFc (fun r u t H1 locs ht hvm hw hB hz1 hk1 hS => ?_)
  obtain ⟨hP1, hK1, hD1⟩ := hB
  rw [ht] at hP1
  obtain ⟨hP2, hD2⟩ := va_join (wr := wr) (w1 := []) hP hD isC isR h2 h4 h5 h6 hk1 hFc hP1 hD1
  exact kk r H1 locs hw hP2 hD2 hS
abbrev rm_MN_divisor : Room := { frames := 2, cells := 0, slots := 0, locals := 51 }
abbrev qz_MN_divisor (dC : Nat → ClassId) (dI : Nat → Nat → Nat) (q_this q_values : Nat) (k_values : ClassId) (x_rowSets : Int32) (x_values : Nat → Int64) (post : Int64 → Prop) (A : Nat → Prop) : Array Value → State → Outcome → State → Prop := va_Ql (fun (r : Int64) (_ : Unit) => post r) (fun (u : Unit) (t : State) => va_P (dC, dI) zz_cl [(q_this, .inr (0, [.ref q_values, .int x_rowSets])), (q_values, .inl (k_values, 256, .inr (.inl x_values)))] t.heap ∧ va_K (dC, dI) zz_cl [(k_values, .long)] t ∧ va_D A [(q_this, .inr (0, [.ref q_values, .int x_rowSets])), (q_values, .inl (k_values, 256, .inr (.inl x_values)))]) A
def cx_MN_divisor (p : Program) (s : State) (m : MethodId) (args : Array Value) (meth : Method) (c : Code) : Prop := p.tables.exec = Jvm.exec ∧ c.code = b_MN_divisor ∧ meth.sig.returnType = (some .long) ∧ c.maxLocals = 6 ∧ s.vm.findClass "StructureRows$Minors" = some m.cls ∧ (∀ w ∈ zz_GW, w.before args s = true) ∧ meth.locks = false
def wp_MN_divisor_60 (x_rowSets : Int32) (x_values : Nat → Int64) (u_1 : Int32) (u_4 : Int32) (post : Int64 → Prop) (K_5 : Int64 → Int32 → Prop) (K_17 : Int64 → Int32 → Prop) (u_2 : Int64) (u_5 : Int32) : Prop := ∀ v_6 : Int32, v_6 = u_5 + 1 → (K_17 u_2 v_6)
set_option maxHeartbeats 4000000 in
set_option maxRecDepth 100000 in
theorem k_MN_divisor_60 {p : Program} {l : Launch} {e : Env} {s : State} {m : MethodId} {args : Array Value} {below : List Frame} {meth : Method} {c : Code} {dC : Nat → ClassId} {dI : Nat → Nat → Nat} {A : Nat → Prop} {q_this q_values : Nat} {k_values : ClassId} {sa : Nat → Nat} {x_rowSets : Int32} {x_values : Nat → Int64} {u_1 : Int32} {u_4 : Int32} {post : Int64 → Prop} {K_5 : Int64 → Int32 → Prop} {K_17 : Int64 → Int32 → Prop} (C0 : cx_MN_divisor p s m args meth c) (hX : zz_X sa A s) (hA : ∀ q : Nat, s.heap.size ≤ q → A q) (hK : va_K (dC, dI) zz_cl [(k_values, .long)] s) (hg_5 : ∀ (u_2 : Int64) (u_4 : Int32) (H : Heap) (locs : List Loc) (ls : Array Slot), K_5 u_2 u_4 → va_P (dC, dI) zz_cl [(q_this, .inr (0, [.ref q_values, .int x_rowSets])), (q_values, .inl (k_values, 256, .inr (.inl x_values)))] H → va_D A [(q_this, .inr (0, [.ref q_values, .int x_rowSets])), (q_values, .inl (k_values, 256, .inr (.inl x_values)))] → va_S A s.heap H locs → lv_has ls 6 [(0, .ref q_this), (1, .int u_1), (2, .long u_2), (4, .int u_4)] → W p l e rm_MN_divisor s m args below meth c H locs 0 0 (MQ below (qz_MN_divisor dC dI q_this q_values k_values x_rowSets x_values post A) args s 0 0 A) (F0 m 5 ls [])) (hg_17 : ∀ (u_2 : Int64) (u_5 : Int32) (H : Heap) (locs : List Loc) (ls : Array Slot), K_17 u_2 u_5 → va_P (dC, dI) zz_cl [(q_this, .inr (0, [.ref q_values, .int x_rowSets])), (q_values, .inl (k_values, 256, .inr (.inl x_values)))] H → va_D A [(q_this, .inr (0, [.ref q_values, .int x_rowSets])), (q_values, .inl (k_values, 256, .inr (.inl x_values)))] → va_S A s.heap H locs → lv_has ls 6 [(0, .ref q_this), (1, .int u_1), (2, .long u_2), (4, .int u_4), (5, .int u_5)] → W p l e rm_MN_divisor s m args below meth c H locs 0 0 (MQ below (qz_MN_divisor dC dI q_this q_values k_values x_rowSets x_values post A) args s 0 0 A) (F0 m 17 ls [])) {u_2 : Int64} {u_5 : Int32} (hw : wp_MN_divisor_60 x_rowSets x_values u_1 u_4 post K_5 K_17 u_2 u_5) {H : Heap} {locs : List Loc} {ls : Array Slot} (hP : va_P (dC, dI) zz_cl [(q_this, .inr (0, [.ref q_values, .int x_rowSets])), (q_values, .inl (k_values, 256, .inr (.inl x_values)))] H) (hD : va_D A [(q_this, .inr (0, [.ref q_values, .int x_rowSets])), (q_values, .inl (k_values, 256, .inr (.inl x_values)))]) (hS : va_S A s.heap H locs) (hl : lv_has ls 6 [(0, .ref q_this), (1, .int u_1), (2, .long u_2), (4, .int u_4), (5, .int u_5)]) : W p l e rm_MN_divisor s m args below meth c H locs 0 0 (MQ below (qz_MN_divisor dC dI q_this q_values k_values x_rowSets x_values post A) args s 0 0 A) (F0 m 60 ls []) := by
  have C1 := C0
  obtain ⟨hx, hb, hr, hml, hown, hts, hlocks⟩ := C1
  unfold wp_MN_divisor_60 at hw
  obtain ⟨v_6, ev_6⟩ : ∃ y : Int32, y = u_5 + 1 := ⟨_, rfl⟩
  replace hw := hw v_6 ev_6
  refine lv_iinc (v := v_6) (lv' := [(5, .int v_6), (0, .ref q_this), (1, .int u_1), (2, .long u_2), (4, .int u_4)]) hx hb d_MN_divisor_60 hl (k := 4) rfl (by rw [ev_6]; rfl) (by decide) rfl (fun ls hl => ?_)
  refine lv_goto (tgt := 17) hx hb d_MN_divisor_63 (by decide) ?_
  exact hg_17 u_2 v_6 H locs ls hw hP hD hS (lv_sub hl [1, 2, 3, 4, 0] rfl)
def wp_MN_divisor_17b (x_rowSets : Int32) (x_values : Nat → Int64) (u_1 : Int32) (u_4 : Int32) (post : Int64 → Prop) (K_5 : Int64 → Int32 → Prop) (P : Int64 → Int32 → Prop) (u_2 : Int64) (u_5 : Int32) : Prop := (16 ≤ u_5 → (∀ v_3 : Int32, v_3 = u_4 + 1 → (K_5 u_2 v_3))) ∧ (¬ 16 ≤ u_5 → (wp_IN_bitCount u_4 (fun (r_4 : Int32) => ((¬ r_4 = u_1 → (wp_MN_divisor_60 x_rowSets x_values u_1 u_4 post K_5 P u_2 u_5)) ∧ (r_4 = u_1 → (wp_IN_bitCount u_5 (fun (r_7 : Int32) => ((¬ r_7 = u_1 → (wp_MN_divisor_60 x_rowSets x_values u_1 u_4 post K_5 P u_2 u_5)) ∧ (r_7 = u_1 → (vp_in ((u_4 * 16) + u_5) 256 ∧ (wp_SR_commonDivisor u_2 (x_values ((u_4 * 16) + u_5).toNatClampNeg) (fun (r_10 : Int64) => (wp_MN_divisor_60 x_rowSets x_values u_1 u_4 post K_5 P r_10 u_5)))))))))))))
def wp_MN_divisor_17 (x_rowSets : Int32) (x_values : Nat → Int64) (u_1 : Int32) (u_4 : Int32) (post : Int64 → Prop) (K_5 : Int64 → Int32 → Prop) (u_2 : Int64) (u_5 : Int32) : Prop := ∀ P : Int64 → Int32 → Prop, (∀ (u_2 : Int64) (u_5 : Int32), wp_MN_divisor_17b x_rowSets x_values u_1 u_4 post K_5 P u_2 u_5 → P u_2 u_5) → P u_2 u_5
set_option maxHeartbeats 4000000 in
set_option maxRecDepth 100000 in
theorem k_MN_divisor_17 {p : Program} {l : Launch} {e : Env} {s : State} {m : MethodId} {args : Array Value} {below : List Frame} {meth : Method} {c : Code} {dC : Nat → ClassId} {dI : Nat → Nat → Nat} {A : Nat → Prop} {q_this q_values : Nat} {k_values : ClassId} {sa : Nat → Nat} {x_rowSets : Int32} {x_values : Nat → Int64} {u_1 : Int32} {u_4 : Int32} {post : Int64 → Prop} {K_5 : Int64 → Int32 → Prop} (C0 : cx_MN_divisor p s m args meth c) (hX : zz_X sa A s) (hA : ∀ q : Nat, s.heap.size ≤ q → A q) (hK : va_K (dC, dI) zz_cl [(k_values, .long)] s) (hg_5 : ∀ (u_2 : Int64) (u_4 : Int32) (H : Heap) (locs : List Loc) (ls : Array Slot), K_5 u_2 u_4 → va_P (dC, dI) zz_cl [(q_this, .inr (0, [.ref q_values, .int x_rowSets])), (q_values, .inl (k_values, 256, .inr (.inl x_values)))] H → va_D A [(q_this, .inr (0, [.ref q_values, .int x_rowSets])), (q_values, .inl (k_values, 256, .inr (.inl x_values)))] → va_S A s.heap H locs → lv_has ls 6 [(0, .ref q_this), (1, .int u_1), (2, .long u_2), (4, .int u_4)] → W p l e rm_MN_divisor s m args below meth c H locs 0 0 (MQ below (qz_MN_divisor dC dI q_this q_values k_values x_rowSets x_values post A) args s 0 0 A) (F0 m 5 ls [])) {u_2 : Int64} {u_5 : Int32} (hw : wp_MN_divisor_17 x_rowSets x_values u_1 u_4 post K_5 u_2 u_5) {H : Heap} {locs : List Loc} {ls : Array Slot} (hP : va_P (dC, dI) zz_cl [(q_this, .inr (0, [.ref q_values, .int x_rowSets])), (q_values, .inl (k_values, 256, .inr (.inl x_values)))] H) (hD : va_D A [(q_this, .inr (0, [.ref q_values, .int x_rowSets])), (q_values, .inl (k_values, 256, .inr (.inl x_values)))]) (hS : va_S A s.heap H locs) (hl : lv_has ls 6 [(0, .ref q_this), (1, .int u_1), (2, .long u_2), (4, .int u_4), (5, .int u_5)]) : W p l e rm_MN_divisor s m args below meth c H locs 0 0 (MQ below (qz_MN_divisor dC dI q_this q_values k_values x_rowSets x_values post A) args s 0 0 A) (F0 m 17 ls []) := by
  have C1 := C0
  obtain ⟨hx, hb, hr, hml, hown, hts, hlocks⟩ := C1
  refine hw (fun (u_2 : Int64) (u_5 : Int32) => ∀ (H : Heap) (locs : List Loc) (ls : Array Slot), va_P (dC, dI) zz_cl [(q_this, .inr (0, [.ref q_values, .int x_rowSets])), (q_values, .inl (k_values, 256, .inr (.inl x_values)))] H → va_D A [(q_this, .inr (0, [.ref q_values, .int x_rowSets])), (q_values, .inl (k_values, 256, .inr (.inl x_values)))] → va_S A s.heap H locs → lv_has ls 6 [(0, .ref q_this), (1, .int u_1), (2, .long u_2), (4, .int u_4), (5, .int u_5)] → W p l e rm_MN_divisor s m args below meth c H locs 0 0 (MQ below (qz_MN_divisor dC dI q_this q_values k_values x_rowSets x_values post A) args s 0 0 A) (F0 m 17 ls [])) ?_ H locs ls hP hD hS hl
  clear hw hP hD hS hl H locs ls
  intro u_2 u_5 hw H locs ls hP hD hS hl
  unfold wp_MN_divisor_17b at hw
  refine lv_iload hx hb d_MN_divisor_17 (lv_at hl 4 rfl) ?_
  refine lv_bipush (v := 16) hx hb d_MN_divisor_19 (by decide) ?_
  refine lv_icmp_ge (tgt := 66) hx hb d_MN_divisor_21 (by decide) (fun h_2 => ?_) (fun h_2 => ?_)
  · replace hw := hw.1 h_2
    obtain ⟨v_3, ev_3⟩ : ∃ y : Int32, y = u_4 + 1 := ⟨_, rfl⟩
    replace hw := hw v_3 ev_3
    refine lv_iinc (v := v_3) (lv' := [(4, .int v_3), (0, .ref q_this), (1, .int u_1), (2, .long u_2), (5, .int u_5)]) hx hb d_MN_divisor_66 hl (k := 3) rfl (by rw [ev_3]; rfl) (by decide) rfl (fun ls hl => ?_)
    refine lv_goto (tgt := 5) hx hb d_MN_divisor_69 (by decide) ?_
    exact hg_5 u_2 v_3 H locs ls hw hP hD hS (lv_sub hl [1, 2, 3, 0] rfl)
  · replace hw := hw.2 h_2
    refine lv_iload hx hb d_MN_divisor_24 (lv_at hl 3 rfl) ?_
    refine go_IN_bitCount (wr := [(q_this, .inr (0, [.ref q_values, .int x_rowSets])), (q_values, .inl (k_values, 256, .inr (.inl x_values)))]) ⟨hx, hb, hml, hown, hts⟩ (zz_cwS 1 hts tw_410 tw_408 tw_409 tw_43 ⟨by decide, by decide, by decide +kernel⟩ ⟨Nat.le_of_ble_eq_true rfl, Nat.le_of_ble_eq_true rfl⟩) hK hP hD hS hA [] [0, 1] [] rfl rfl (by decide) rfl (by decide) (by decide) rfl hw hl.1 (Nat.le_of_ble_eq_true rfl) d_MN_divisor_26 ⟨Nat.le_of_ble_eq_true rfl, Nat.le_of_ble_eq_true rfl⟩ (fun r_4 H locs hw hP hD hS => ?_)
    replace hP : va_P (dC, dI) zz_cl [(q_this, .inr (0, [.ref q_values, .int x_rowSets])), (q_values, .inl (k_values, 256, .inr (.inl x_values)))] H := hP
    replace hD : va_D A [(q_this, .inr (0, [.ref q_values, .int x_rowSets])), (q_values, .inl (k_values, 256, .inr (.inl x_values)))] := hD
    refine lv_iload_n hx hb d_MN_divisor_29 rfl (lv_at hl 1 rfl) ?_
    refine lv_icmp_ne (tgt := 60) hx hb d_MN_divisor_30 (by decide) (fun h_5 => ?_) (fun h_5 => ?_)
    · replace hw := hw.1 h_5
      exact k_MN_divisor_60 C0 hX hA hK hg_5 (fun y0 y1 H locs ls h9 h1 h2 h3 h4 => h9 H locs ls h1 h2 h3 h4) hw hP hD hS hl
    · replace hw := hw.2 h_5
      refine lv_iload hx hb d_MN_divisor_33 (lv_at hl 4 rfl) ?_
      refine go_IN_bitCount (wr := [(q_this, .inr (0, [.ref q_values, .int x_rowSets])), (q_values, .inl (k_values, 256, .inr (.inl x_values)))]) ⟨hx, hb, hml, hown, hts⟩ (zz_cwS 1 hts tw_410 tw_408 tw_409 tw_43 ⟨by decide, by decide, by decide +kernel⟩ ⟨Nat.le_of_ble_eq_true rfl, Nat.le_of_ble_eq_true rfl⟩) hK hP hD hS hA [] [0, 1] [] rfl rfl (by decide) rfl (by decide) (by decide) rfl hw hl.1 (Nat.le_of_ble_eq_true rfl) d_MN_divisor_35 ⟨Nat.le_of_ble_eq_true rfl, Nat.le_of_ble_eq_true rfl⟩ (fun r_7 H locs hw hP hD hS => ?_)
      replace hP : va_P (dC, dI) zz_cl [(q_this, .inr (0, [.ref q_values, .int x_rowSets])), (q_values, .inl (k_values, 256, .inr (.inl x_values)))] H := hP
      replace hD : va_D A [(q_this, .inr (0, [.ref q_values, .int x_rowSets])), (q_values, .inl (k_values, 256, .inr (.inl x_values)))] := hD
      refine lv_iload_n hx hb d_MN_divisor_38 rfl (lv_at hl 1 rfl) ?_
      refine lv_icmp_ne (tgt := 60) hx hb d_MN_divisor_39 (by decide) (fun h_8 => ?_) (fun h_8 => ?_)
      · replace hw := hw.1 h_8
        exact k_MN_divisor_60 C0 hX hA hK hg_5 (fun y0 y1 H locs ls h9 h1 h2 h3 h4 => h9 H locs ls h1 h2 h3 h4) hw hP hD hS hl
      · replace hw := hw.2 h_8
        refine lv_lload_n hx hb d_MN_divisor_42 rfl (lv_at hl 2 rfl) ?_
        refine lv_aload_n hx hb d_MN_divisor_43 rfl (lv_at hl 0 rfl) ?_
        refine va_get (D := (dC, dI)) (ci := 0) (v := .ref q_values) (C := "StructureRows$Minors") (T := T_MN) (N := 2) hx hb hts in_MN hown hK hP 0 rfl rfl 0 (by decide) (hts _ tw_82) (fun _ h9 => h9) rfl d_MN_divisor_44 ?_
        refine lv_iload hx hb d_MN_divisor_47 (lv_at hl 3 rfl) ?_
        refine lv_bipush (v := 16) hx hb d_MN_divisor_49 (by decide) ?_
        refine lv_imul hx hb d_MN_divisor_51 ?_
        refine lv_iload hx hb d_MN_divisor_52 (lv_at hl 4 rfl) ?_
        refine lv_iadd hx hb d_MN_divisor_54 ?_
        obtain ⟨h_9, hw⟩ := hw
        refine va_lald hx hb hK hP 1 0 rfl rfl h_9 d_MN_divisor_55 ?_
        refine go_SR_commonDivisorN (wr := [(q_this, .inr (0, [.ref q_values, .int x_rowSets])), (q_values, .inl (k_values, 256, .inr (.inl x_values)))]) ⟨hx, hb, hml, hown, hts⟩ (zz_cwN 2 hts tw_424 hX.1.1 tw_423 tw_31 ⟨by decide, by decide, by decide +kernel⟩ ⟨Nat.le_of_ble_eq_true rfl, Nat.le_of_ble_eq_true rfl⟩) hK hP hD hS hA [] [0, 1] [] rfl rfl (by decide) rfl (by decide) (by decide) rfl hw hl.1 (Nat.le_of_ble_eq_true rfl) d_MN_divisor_56 ⟨Nat.le_of_ble_eq_true rfl, Nat.le_of_ble_eq_true rfl⟩ (fun r_10 H locs hw hP hD hS => ?_)
        replace hP : va_P (dC, dI) zz_cl [(q_this, .inr (0, [.ref q_values, .int x_rowSets])), (q_values, .inl (k_values, 256, .inr (.inl x_values)))] H := hP
        replace hD : va_D A [(q_this, .inr (0, [.ref q_values, .int x_rowSets])), (q_values, .inl (k_values, 256, .inr (.inl x_values)))] := hD
        refine lv_lstore_n (lv' := [(2, .long r_10), (0, .ref q_this), (1, .int u_1), (4, .int u_4), (5, .int u_5)]) hx hb d_MN_divisor_59 rfl hl (by decide) rfl (fun ls hl => ?_)
        exact k_MN_divisor_60 C0 hX hA hK hg_5 (fun y0 y1 H locs ls h9 h1 h2 h3 h4 => h9 H locs ls h1 h2 h3 h4) hw hP hD hS (lv_sub hl [1, 2, 0, 3, 4] rfl)
def wp_MN_divisor_5b (x_rowSets : Int32) (x_values : Nat → Int64) (u_1 : Int32) (post : Int64 → Prop)  (P : Int64 → Int32 → Prop) (u_2 : Int64) (u_4 : Int32) : Prop := (x_rowSets ≤ u_4 → (post u_2)) ∧ (¬ x_rowSets ≤ u_4 → (wp_MN_divisor_17 x_rowSets x_values u_1 u_4 post P u_2 0))
def wp_MN_divisor_5 (x_rowSets : Int32) (x_values : Nat → Int64) (u_1 : Int32) (post : Int64 → Prop)  (u_2 : Int64) (u_4 : Int32) : Prop := ∀ P : Int64 → Int32 → Prop, (∀ (u_2 : Int64) (u_4 : Int32), wp_MN_divisor_5b x_rowSets x_values u_1 post P u_2 u_4 → P u_2 u_4) → P u_2 u_4
set_option maxHeartbeats 4000000 in
set_option maxRecDepth 100000 in
theorem k_MN_divisor_5 {p : Program} {l : Launch} {e : Env} {s : State} {m : MethodId} {args : Array Value} {below : List Frame} {meth : Method} {c : Code} {dC : Nat → ClassId} {dI : Nat → Nat → Nat} {A : Nat → Prop} {q_this q_values : Nat} {k_values : ClassId} {sa : Nat → Nat} {x_rowSets : Int32} {x_values : Nat → Int64} {u_1 : Int32} {post : Int64 → Prop}  (C0 : cx_MN_divisor p s m args meth c) (hX : zz_X sa A s) (hA : ∀ q : Nat, s.heap.size ≤ q → A q) (hK : va_K (dC, dI) zz_cl [(k_values, .long)] s) {u_2 : Int64} {u_4 : Int32} (hw : wp_MN_divisor_5 x_rowSets x_values u_1 post u_2 u_4) {H : Heap} {locs : List Loc} {ls : Array Slot} (hP : va_P (dC, dI) zz_cl [(q_this, .inr (0, [.ref q_values, .int x_rowSets])), (q_values, .inl (k_values, 256, .inr (.inl x_values)))] H) (hD : va_D A [(q_this, .inr (0, [.ref q_values, .int x_rowSets])), (q_values, .inl (k_values, 256, .inr (.inl x_values)))]) (hS : va_S A s.heap H locs) (hl : lv_has ls 6 [(0, .ref q_this), (1, .int u_1), (2, .long u_2), (4, .int u_4)]) : W p l e rm_MN_divisor s m args below meth c H locs 0 0 (MQ below (qz_MN_divisor dC dI q_this q_values k_values x_rowSets x_values post A) args s 0 0 A) (F0 m 5 ls []) := by
  have C1 := C0
  obtain ⟨hx, hb, hr, hml, hown, hts, hlocks⟩ := C1
  refine hw (fun (u_2 : Int64) (u_4 : Int32) => ∀ (H : Heap) (locs : List Loc) (ls : Array Slot), va_P (dC, dI) zz_cl [(q_this, .inr (0, [.ref q_values, .int x_rowSets])), (q_values, .inl (k_values, 256, .inr (.inl x_values)))] H → va_D A [(q_this, .inr (0, [.ref q_values, .int x_rowSets])), (q_values, .inl (k_values, 256, .inr (.inl x_values)))] → va_S A s.heap H locs → lv_has ls 6 [(0, .ref q_this), (1, .int u_1), (2, .long u_2), (4, .int u_4)] → W p l e rm_MN_divisor s m args below meth c H locs 0 0 (MQ below (qz_MN_divisor dC dI q_this q_values k_values x_rowSets x_values post A) args s 0 0 A) (F0 m 5 ls [])) ?_ H locs ls hP hD hS hl
  clear hw hP hD hS hl H locs ls
  intro u_2 u_4 hw H locs ls hP hD hS hl
  unfold wp_MN_divisor_5b at hw
  refine lv_iload hx hb d_MN_divisor_5 (lv_at hl 3 rfl) ?_
  refine lv_aload_n hx hb d_MN_divisor_7 rfl (lv_at hl 0 rfl) ?_
  refine va_get (D := (dC, dI)) (ci := 0) (v := .int x_rowSets) (C := "StructureRows$Minors") (T := T_MN) (N := 2) hx hb hts in_MN hown hK hP 0 rfl rfl 1 (by decide) (hts _ tw_83) (fun _ h9 => h9) rfl d_MN_divisor_8 ?_
  refine lv_icmp_ge (tgt := 72) hx hb d_MN_divisor_11 (by decide) (fun h_1 => ?_) (fun h_1 => ?_)
  · replace hw := hw.1 h_1
    refine lv_lload_n hx hb d_MN_divisor_72 rfl (lv_at hl 2 rfl) ?_
    exact W.lret (v := u_2) hx hb hr (fun t ht hW => ⟨⟨u_2, (), rfl, hw, by rw [ht]; exact hP, va_K.moved hW.alike hK, hD⟩, hS.F ht⟩) hS.2.2 d_MN_divisor_73
  · replace hw := hw.2 h_1
    refine lv_iconst (v := 0) hx hb d_MN_divisor_14 (by decide) ?_
    refine lv_istore (lv' := [(5, .int 0), (0, .ref q_this), (1, .int u_1), (2, .long u_2), (4, .int u_4)]) hx hb d_MN_divisor_15 hl (by decide) rfl (fun ls hl => ?_)
    exact k_MN_divisor_17 C0 hX hA hK (fun y0 y1 H locs ls h9 h1 h2 h3 h4 => h9 H locs ls h1 h2 h3 h4) hw hP hD hS (lv_sub hl [1, 2, 3, 4, 0] rfl)
def wp_MN_divisor (x_rowSets : Int32) (x_values : Nat → Int64) (a_0 : Int32) (post : Int64 → Prop) : Prop := wp_MN_divisor_5 x_rowSets x_values a_0 post 0 0
set_option maxHeartbeats 4000000 in
set_option maxRecDepth 100000 in
theorem c_MN_divisor (l : Launch) (sa : Nat → Nat) (dC : Nat → ClassId) (dI : Nat → Nat → Nat) (q_this q_values : Nat) (k_values : ClassId) (sz : Nat) (x_rowSets : Int32) (x_values : Nat → Int64) (a_0 : Int32) (post : Int64 → Prop) (hw : wp_MN_divisor x_rowSets x_values a_0 post) : Met l y_MN_divisor (zz_w y_MN_divisor b_MN_divisor 6 (some .long)) rm_MN_divisor (va_Pc [.ref q_this, .int a_0] (fun U => U.heap.size = sz ∧ va_P (dC, dI) zz_cl [(q_this, .inr (0, [.ref q_values, .int x_rowSets])), (q_values, .inl (k_values, 256, .inr (.inl x_values)))] U.heap ∧ va_K (dC, dI) zz_cl [(k_values, .long)] U ∧ va_D (fun _ => True) [(q_this, .inr (0, [.ref q_values, .int x_rowSets])), (q_values, .inl (k_values, 256, .inr (.inl x_values)))] ∧ zz_X sa (va_A [(q_this, .inr (0, [.ref q_values, .int x_rowSets])), (q_values, .inl (k_values, 256, .inr (.inl x_values)))] sz) U)) (qz_MN_divisor dC dI q_this q_values k_values x_rowSets x_values post (va_A [(q_this, .inr (0, [.ref q_values, .int x_rowSets])), (q_values, .inl (k_values, 256, .inr (.inl x_values)))] sz)) 0 0 (va_A [(q_this, .inr (0, [.ref q_values, .int x_rowSets])), (q_values, .inl (k_values, 256, .inr (.inl x_values)))] sz) := by
  refine Met.ofW (cc := b_MN_divisor) (maxL := 6) (ret := (some .long)) (by decide) rfl ?_
  intro p e s m args below meth c s₁ B hml hv
  obtain ⟨rfl, hsz, hP, hK, hD0, hX⟩ := hv
  have hx := B.exec
  have hb := B.bytes
  have hr := B.returns
  have hts0 := atoms_spec (ws := (zz_w y_MN_divisor b_MN_divisor 6 (some .long))) B.pre
  have hts : ∀ w ∈ zz_GW, w.before _ s = true := fun w h => hts0 w (List.mem_cons_of_mem _ h)
  clear hts0
  have hown : s.vm.findClass "StructureRows$Minors" = some m.cls := findClass_of_methodNamed B.named
  have hlocks := B.notSynchronized
  have C0 : cx_MN_divisor p s m _ meth c := ⟨hx, hb, hr, hml, hown, hts, hlocks⟩
  subst hsz
  have hD := hD0.self (sz := s.heap.size)
  generalize hAe : va_A [(q_this, .inr (0, [.ref q_values, .int x_rowSets])), (q_values, .inl (k_values, 256, .inr (.inl x_values)))] s.heap.size = A at hD hX ⊢
  have hA : ∀ q : Nat, s.heap.size ≤ q → A q := fun q h => by rw [← hAe]; exact Or.inr h
  clear hAe hD0
  have hS : va_S A s.heap s.heap [] := va_S.rf
  have hl := lv_entry ([.ref q_this, .int a_0]) (n := 6) (Nat.le_of_ble_eq_true rfl)
  rw [lg_entry_eq]
  generalize (lg_sl ([.ref q_this, .int a_0]) ++ List.replicate (6 - (lg_sl ([.ref q_this, .int a_0])).length) Slot.unset).toArray = ls at hl ⊢
  replace hl : lv_has ls 6 [(0, .ref q_this), (1, .int a_0)] := hl
  unfold wp_MN_divisor at hw
  change W p l e rm_MN_divisor s m _ below meth c s.heap [] 0 0 _ _
  refine lv_lconst (v := 0) hx hb d_MN_divisor_0 (by decide) ?_
  refine lv_lstore_n (lv' := [(2, .long 0), (0, .ref q_this), (1, .int a_0)]) hx hb d_MN_divisor_1 rfl hl (by decide) rfl (fun ls hl => ?_)
  refine lv_iconst (v := 0) hx hb d_MN_divisor_2 (by decide) ?_
  refine lv_istore (lv' := [(4, .int 0), (2, .long 0), (0, .ref q_this), (1, .int a_0)]) hx hb d_MN_divisor_3 hl (by decide) rfl (fun ls hl => ?_)
  exact k_MN_divisor_5 C0 hX hA hK hw hP hD hS (lv_sub hl [2, 3, 1, 0] rfl)
set_option maxHeartbeats 4000000 in
set_option maxRecDepth 100000 in
theorem go_MN_divisor {p : Program} {l : Launch} {e : Env} {R : Room} {s : State} {m : MethodId} {args : Array Value} {below : List Frame} {meth : Method} {c : Code} {H : Heap} {locs : List Loc} {cells slots : Nat} {Q : State → Prop} {cc : ByteArray} {nL : Nat} {Ts : List Cond} {own : String} {index : Nat} {A0 : Nat → Prop} {dC : Nat → ClassId} {dI : Nat → Nat → Nat} {ws wr : va_W} {tys : List (ClassId × FieldType)} {q_this q_values : Nat} {k_values : ClassId} {sa : Nat → Nat} {x_rowSets : Int32} {x_values : Nat → Int64} {a_0 : Int32} {post : Int64 → Prop} (S : CallFix p m c cc nL s args Ts own) (cw : CallW R s args own "StructureRows$Minors" index y_MN_divisor b_MN_divisor 6 (some .long) (zz_w y_MN_divisor b_MN_divisor 6 (some .long)) rm_MN_divisor 0 0 1) (hK : va_K (dC, dI) zz_cl tys s) (hP : va_P (dC, dI) zz_cl ws H) (hD : va_D A0 ws) (hS : va_S A0 s.heap H locs) (hA : ∀ q, s.heap.size ≤ q → A0 q) (isC isR kt : List Nat) (h1 : isC.filterMap (fun i => ws[i]?) = [(q_this, .inr (0, [.ref q_values, .int x_rowSets])), (q_values, .inl (k_values, 256, .inr (.inl x_values)))]) (h2 : isC.map (fun i => ws[i]?) = ([(q_this, .inr (0, [.ref q_values, .int x_rowSets])), (q_values, .inl (k_values, 256, .inr (.inl x_values)))] : va_W).map some) (h3 : va_nd isC = true) (h4 : isR.map (fun i => ws[i]?) = wr.map some) (h5 : va_nd isR = true) (h6 : ∀ i ∈ isR, i ∉ isC) (h7 : kt.filterMap (fun i => tys[i]?) = [(k_values, .long)]) (hX : zz_X sa A0 s) (hw : wp_MN_divisor x_rowSets x_values a_0 post) {pc : Nat} {ls : Array Slot} {rest : List Value} (hsize : ls.size = nL) (hrest : (rest.map fun v => v.category).sum ≤ 8) (hdg : decode cc pc = .ok (.invokevirtual index, 3)) (hf : cells + 0 ≤ R.cells ∧ slots + 0 ≤ R.slots) (kk : ∀ (r : Int64) (H1 : Heap) (locs1 : List Loc), post r → va_P (dC, dI) zz_cl (wr ++ [(q_this, .inr (0, [.ref q_values, .int x_rowSets])), (q_values, .inl (k_values, 256, .inr (.inl x_values)))]) H1 → va_D A0 (wr ++ [(q_this, .inr (0, [.ref q_values, .int x_rowSets])), (q_values, .inl (k_values, 256, .inr (.inl x_values)))]) → va_S A0 s.heap H1 locs1 → W p l e R s m args below meth c H1 locs1 (cells + 0) (slots + 0) Q (F0 m (pc + 3) ls (.long r :: rest))) : W p l e R s m args below meth c H locs cells slots Q (F0 m pc ls (.int a_0 :: .ref q_this :: rest)) := by
  have hPc := hP.sub (ws' := [(q_this, .inr (0, [.ref q_values, .int x_rowSets])), (q_values, .inl (k_values, 256, .inr (.inl x_values)))]) isC h1
  have hDc := hD.sub (ws' := [(q_this, .inr (0, [.ref q_values, .int x_rowSets])), (q_values, .inl (k_values, 256, .inr (.inl x_values)))]) isC h3 h2
  have hKc := hK.sub (tys' := [(k_values, .long)]) kt h7
  have hFc := va_free (wc := [(q_this, .inr (0, [.ref q_values, .int x_rowSets])), (q_values, .inl (k_values, 256, .inr (.inl x_values)))]) hD hS hA isC h2
  refine va_calll (va_runV (As := [.int a_0]) (rest := rest) S (c_MN_divisor l sa dC dI q_this q_values k_values H.size x_rowSets x_values a_0 post hw) cw ⟨zz_blindX, va_recv hKc hPc (ci := 0) (q0 := 0) rfl rfl, fun U hU hW => ⟨rfl, by rw [hU], by rw [hU]; exact hPc, va_K.moved hW.alike hKc, hDc.weaken (fun _ _ _ _ => trivial), zz_X_to hX hS hFc hU hW⟩⟩ rfl rfl hsize rfl (lv_room hrest) hdg hf) hS (fun q _ h => hFc q h) hFc (fun r u t H1 locs ht hvm hw hB hz1 hk1 hS => ?_)
  obtain ⟨hP1, hK1, hD1⟩ := hB
  rw [ht] at hP1
  obtain ⟨hP2, hD2⟩ := va_join (wr := wr) (w1 := [(q_this, .inr (0, [.ref q_values, .int x_rowSets])), (q_values, .inl (k_values, 256, .inr (.inl x_values)))]) hP hD isC isR h2 h4 h5 h6 hk1 hFc hP1 hD1
  exact kk r H1 locs hw hP2 hD2 hS
abbrev rm_PW_missingMultiple : Room := { frames := 2, cells := 0, slots := 0, locals := 51 }
abbrev qz_PW_missingMultiple (dC : Nat → ClassId) (dI : Nat → Nat → Nat)  (post : Int64 → Prop) (A : Nat → Prop) : Array Value → State → Outcome → State → Prop := va_Ql (fun (r : Int64) (_ : Unit) => post r) (fun (u : Unit) (t : State) => va_P (dC, dI) zz_cl [] t.heap ∧ va_K (dC, dI) zz_cl [] t ∧ va_D A []) A
def cx_PW_missingMultiple (p : Program) (s : State) (m : MethodId) (args : Array Value) (meth : Method) (c : Code) : Prop := p.tables.exec = Jvm.exec ∧ c.code = b_PW_missingMultiple ∧ meth.sig.returnType = (some .long) ∧ c.maxLocals = 6 ∧ s.vm.findClass "StructureRows$Power" = some m.cls ∧ (∀ w ∈ zz_GW, w.before args s = true) ∧ meth.locks = false
def wp_PW_missingMultiple  (a_0 : Int64) (a_1 : Int64) (post : Int64 → Prop) : Prop := wp_SR_commonDivisor a_0 a_1 (fun (r_1 : Int64) => (((lg_cmp r_1 0) ≤ 0 → (post 1)) ∧ (¬ (lg_cmp r_1 0) ≤ 0 → (¬ r_1 = 0 ∧ (post (a_0 / r_1))))))
set_option maxHeartbeats 4000000 in
set_option maxRecDepth 100000 in
theorem c_PW_missingMultiple (l : Launch) (sa : Nat → Nat) (dC : Nat → ClassId) (dI : Nat → Nat → Nat) (sz : Nat)  (a_0 : Int64) (a_1 : Int64) (post : Int64 → Prop) (hw : wp_PW_missingMultiple a_0 a_1 post) : Met l y_PW_missingMultiple (zz_w y_PW_missingMultiple b_PW_missingMultiple 6 (some .long)) rm_PW_missingMultiple (va_Pc [.long a_0, .long a_1] (fun U => U.heap.size = sz ∧ va_P (dC, dI) zz_cl [] U.heap ∧ va_K (dC, dI) zz_cl [] U ∧ va_D (fun _ => True) [] ∧ zz_X sa (va_A [] sz) U)) (qz_PW_missingMultiple dC dI post (va_A [] sz)) 0 0 (va_A [] sz) := by
  refine Met.ofW (cc := b_PW_missingMultiple) (maxL := 6) (ret := (some .long)) (by decide) rfl ?_
  intro p e s m args below meth c s₁ B hml hv
  obtain ⟨rfl, hsz, hP, hK, hD0, hX⟩ := hv
  have hx := B.exec
  have hb := B.bytes
  have hr := B.returns
  have hts0 := atoms_spec (ws := (zz_w y_PW_missingMultiple b_PW_missingMultiple 6 (some .long))) B.pre
  have hts : ∀ w ∈ zz_GW, w.before _ s = true := fun w h => hts0 w (List.mem_cons_of_mem _ h)
  clear hts0
  have hown : s.vm.findClass "StructureRows$Power" = some m.cls := findClass_of_methodNamed B.named
  have hlocks := B.notSynchronized
  have C0 : cx_PW_missingMultiple p s m _ meth c := ⟨hx, hb, hr, hml, hown, hts, hlocks⟩
  subst hsz
  have hD := hD0.self (sz := s.heap.size)
  generalize hAe : va_A [] s.heap.size = A at hD hX ⊢
  have hA : ∀ q : Nat, s.heap.size ≤ q → A q := fun q h => by rw [← hAe]; exact Or.inr h
  clear hAe hD0
  have hS : va_S A s.heap s.heap [] := va_S.rf
  have hl := lv_entry ([.long a_0, .long a_1]) (n := 6) (Nat.le_of_ble_eq_true rfl)
  rw [lg_entry_eq]
  generalize (lg_sl ([.long a_0, .long a_1]) ++ List.replicate (6 - (lg_sl ([.long a_0, .long a_1])).length) Slot.unset).toArray = ls at hl ⊢
  replace hl : lv_has ls 6 [(0, .long a_0), (2, .long a_1)] := hl
  unfold wp_PW_missingMultiple at hw
  change W p l e rm_PW_missingMultiple s m _ below meth c s.heap [] 0 0 _ _
  refine lv_lload_n hx hb d_PW_missingMultiple_0 rfl (lv_at hl 0 rfl) ?_
  refine lv_lload_n hx hb d_PW_missingMultiple_1 rfl (lv_at hl 1 rfl) ?_
  refine go_SR_commonDivisorN (wr := []) ⟨hx, hb, hml, hown, hts⟩ (zz_cwN 2 hts tw_424 hX.1.2 tw_423 tw_31 ⟨by decide, by decide, by decide +kernel⟩ ⟨Nat.le_of_ble_eq_true rfl, Nat.le_of_ble_eq_true rfl⟩) hK hP hD hS hA [] [] [] rfl rfl (by decide) rfl (by decide) (by decide) rfl hw hl.1 (Nat.le_of_ble_eq_true rfl) d_PW_missingMultiple_2 ⟨Nat.le_of_ble_eq_true rfl, Nat.le_of_ble_eq_true rfl⟩ (fun r_1 H locs hw hP hD hS => ?_)
  replace hP : va_P (dC, dI) zz_cl [] H := hP
  replace hD : va_D A [] := hD
  refine lv_lstore (lv' := [(4, .long r_1), (0, .long a_0), (2, .long a_1)]) hx hb d_PW_missingMultiple_5 hl (by decide) rfl (fun ls hl => ?_)
  refine lv_lload hx hb d_PW_missingMultiple_7 (lv_at hl 0 rfl) ?_
  refine lv_lconst (v := 0) hx hb d_PW_missingMultiple_9 (by decide) ?_
  refine W.lcmp hx hb d_PW_missingMultiple_10 ?_
  refine lv_if_le (tgt := 21) hx hb d_PW_missingMultiple_11 (by decide) (fun h_2 => ?_) (fun h_2 => ?_)
  · replace hw := hw.1 h_2
    refine lv_lconst (v := 1) hx hb d_PW_missingMultiple_21 (by decide) ?_
    exact W.lret (v := 1) hx hb hr (fun t ht hW => ⟨⟨1, (), rfl, hw, by rw [ht]; exact hP, va_K.moved hW.alike hK, hD⟩, hS.F ht⟩) hS.2.2 d_PW_missingMultiple_22
  · replace hw := hw.2 h_2
    refine lv_lload_n hx hb d_PW_missingMultiple_14 rfl (lv_at hl 1 rfl) ?_
    refine lv_lload hx hb d_PW_missingMultiple_15 (lv_at hl 0 rfl) ?_
    obtain ⟨h_3, hw⟩ := hw
    refine lv_ldiv hx hb d_PW_missingMultiple_17 h_3 ?_
    refine lv_goto (tgt := 22) hx hb d_PW_missingMultiple_18 (by decide) ?_
    exact W.lret (v := a_0 / r_1) hx hb hr (fun t ht hW => ⟨⟨a_0 / r_1, (), rfl, hw, by rw [ht]; exact hP, va_K.moved hW.alike hK, hD⟩, hS.F ht⟩) hS.2.2 d_PW_missingMultiple_22
set_option maxHeartbeats 4000000 in
set_option maxRecDepth 100000 in
theorem go_PW_missingMultiple {p : Program} {l : Launch} {e : Env} {R : Room} {s : State} {m : MethodId} {args : Array Value} {below : List Frame} {meth : Method} {c : Code} {H : Heap} {locs : List Loc} {cells slots : Nat} {Q : State → Prop} {cc : ByteArray} {nL : Nat} {Ts : List Cond} {own : String} {index : Nat} {A0 : Nat → Prop} {dC : Nat → ClassId} {dI : Nat → Nat → Nat} {ws wr : va_W} {tys : List (ClassId × FieldType)} {sa : Nat → Nat}  {a_0 : Int64} {a_1 : Int64} {post : Int64 → Prop} (S : CallFix p m c cc nL s args Ts own) (cw : CallB R s args own index y_PW_missingMultiple b_PW_missingMultiple 6 (some .long) (zz_w y_PW_missingMultiple b_PW_missingMultiple 6 (some .long)) rm_PW_missingMultiple 0 0 2 ∧ (Cond.static y_PW_missingMultiple).before args s = true) (hK : va_K (dC, dI) zz_cl tys s) (hP : va_P (dC, dI) zz_cl ws H) (hD : va_D A0 ws) (hS : va_S A0 s.heap H locs) (hA : ∀ q, s.heap.size ≤ q → A0 q) (isC isR kt : List Nat) (h1 : isC.filterMap (fun i => ws[i]?) = []) (h2 : isC.map (fun i => ws[i]?) = ([] : va_W).map some) (h3 : va_nd isC = true) (h4 : isR.map (fun i => ws[i]?) = wr.map some) (h5 : va_nd isR = true) (h6 : ∀ i ∈ isR, i ∉ isC) (h7 : kt.filterMap (fun i => tys[i]?) = []) (hX : zz_X sa A0 s) (hw : wp_PW_missingMultiple a_0 a_1 post) {pc : Nat} {ls : Array Slot} {rest : List Value} (hsize : ls.size = nL) (hrest : (rest.map fun v => v.category).sum ≤ 8) (hdg : decode cc pc = .ok (.invokestatic index, 3)) (hf : cells + 0 ≤ R.cells ∧ slots + 0 ≤ R.slots) (kk : ∀ (r : Int64) (H1 : Heap) (locs1 : List Loc), post r → va_P (dC, dI) zz_cl (wr ++ []) H1 → va_D A0 (wr ++ []) → va_S A0 s.heap H1 locs1 → W p l e R s m args below meth c H1 locs1 (cells + 0) (slots + 0) Q (F0 m (pc + 3) ls (.long r :: rest))) : W p l e R s m args below meth c H locs cells slots Q (F0 m pc ls (.long a_1 :: .long a_0 :: rest)) := by
  have hPc := hP.sub (ws' := []) isC h1
  have hDc := hD.sub (ws' := []) isC h3 h2
  have hKc := hK.sub (tys' := []) kt h7
  have hFc := va_free (wc := []) hD hS hA isC h2
  refine va_calll (va_runS (As := [.long a_0, .long a_1]) (rest := rest) S (c_PW_missingMultiple l sa dC dI H.size a_0 a_1 post hw) cw ⟨zz_blindX, fun U hU hW => ⟨rfl, by rw [hU], by rw [hU]; exact hPc, va_K.moved hW.alike hKc, hDc.weaken (fun _ _ _ _ => trivial), zz_X_to hX hS hFc hU hW⟩⟩ rfl rfl hsize rfl (lv_room hrest) hdg hf) hS (fun q _ h => hFc q h) hFc (fun r u t H1 locs ht hvm hw hB hz1 hk1 hS => ?_)
  obtain ⟨hP1, hK1, hD1⟩ := hB
  rw [ht] at hP1
  obtain ⟨hP2, hD2⟩ := va_join (wr := wr) (w1 := []) hP hD isC isR h2 h4 h5 h6 hk1 hFc hP1 hD1
  exact kk r H1 locs hw hP2 hD2 hS
abbrev rm_PW_find : Room := { frames := 3, cells := 0, slots := 0, locals := 76 }
abbrev qz_PW_find (dC : Nat → ClassId) (dI : Nat → Nat → Nat) (q_this q_rest q_shares q_p0 q_p0_cells q_p0_beginnings : Nat) (k_rest k_shares k_p0_cells : ClassId) (x_p0_height : Int32) (x_p0_width : Int32) (x_p0_imageHeight : Int32) (x_p0_cells : Nat → Int64) (post : Int64 → Int32 → (Nat → Int64) → (Nat → Int64) → Prop) (A : Nat → Prop) : Array Value → State → Outcome → State → Prop := va_Ql (fun (r : Int64) (u : Int32 × (Nat → Int64) × (Nat → Int64)) => post r u.1 u.2.1 u.2.2) (fun (u : Int32 × (Nat → Int64) × (Nat → Int64)) (t : State) => va_P (dC, dI) zz_cl [(q_this, .inr (1, [.ref q_rest, .ref q_shares, .int u.1])), (q_rest, .inl (k_rest, 4, .inr (.inl u.2.1))), (q_shares, .inl (k_shares, 4, .inr (.inl u.2.2))), (q_p0, .inr (2, [.ref q_p0_cells, .ref q_p0_beginnings, .int x_p0_height, .int x_p0_width, .int x_p0_imageHeight])), (q_p0_cells, .inl (k_p0_cells, 32, .inr (.inl x_p0_cells)))] t.heap ∧ va_K (dC, dI) zz_cl [(k_rest, .long), (k_shares, .long), (k_p0_cells, .long)] t ∧ va_D A [(q_this, .inr (1, [.ref q_rest, .ref q_shares, .int u.1])), (q_rest, .inl (k_rest, 4, .inr (.inl u.2.1))), (q_shares, .inl (k_shares, 4, .inr (.inl u.2.2))), (q_p0, .inr (2, [.ref q_p0_cells, .ref q_p0_beginnings, .int x_p0_height, .int x_p0_width, .int x_p0_imageHeight])), (q_p0_cells, .inl (k_p0_cells, 32, .inr (.inl x_p0_cells)))]) A
def cx_PW_find (p : Program) (s : State) (m : MethodId) (args : Array Value) (meth : Method) (c : Code) : Prop := p.tables.exec = Jvm.exec ∧ c.code = b_PW_find ∧ meth.sig.returnType = (some .long) ∧ c.maxLocals = 10 ∧ s.vm.findClass "StructureRows$Power" = some m.cls ∧ (∀ w ∈ zz_GW, w.before args s = true) ∧ meth.locks = false
def wp_PW_find_98 (x_known : Int32) (x_p0_height : Int32) (x_p0_width : Int32) (x_p0_imageHeight : Int32) (x_p0_cells : Nat → Int64) (post : Int64 → Int32 → (Nat → Int64) → (Nat → Int64) → Prop) (K_8 : (Nat → Int64) → (Nat → Int64) → Int64 → Int32 → Int32 → Prop) (x_rest : Nat → Int64) (x_shares : Nat → Int64) (u_2 : Int64) (u_4 : Int32) (u_5 : Int32) : Prop := ∀ v_9 : Int32, v_9 = u_5 + 1 → (K_8 x_rest x_shares u_2 u_4 v_9)
set_option maxHeartbeats 4000000 in
set_option maxRecDepth 100000 in
theorem k_PW_find_98 {p : Program} {l : Launch} {e : Env} {s : State} {m : MethodId} {args : Array Value} {below : List Frame} {meth : Method} {c : Code} {dC : Nat → ClassId} {dI : Nat → Nat → Nat} {A : Nat → Prop} {q_this q_rest q_shares q_p0 q_p0_cells q_p0_beginnings : Nat} {k_rest k_shares k_p0_cells : ClassId} {sa : Nat → Nat} {x_known : Int32} {x_p0_height : Int32} {x_p0_width : Int32} {x_p0_imageHeight : Int32} {x_p0_cells : Nat → Int64} {post : Int64 → Int32 → (Nat → Int64) → (Nat → Int64) → Prop} {K_8 : (Nat → Int64) → (Nat → Int64) → Int64 → Int32 → Int32 → Prop} (C0 : cx_PW_find p s m args meth c) (hX : zz_X sa A s) (hA : ∀ q : Nat, s.heap.size ≤ q → A q) (hK : va_K (dC, dI) zz_cl [(k_rest, .long), (k_shares, .long), (k_p0_cells, .long)] s) (hg_8 : ∀ (x_rest : Nat → Int64) (x_shares : Nat → Int64) (u_2 : Int64) (u_4 : Int32) (u_5 : Int32) (H : Heap) (locs : List Loc) (ls : Array Slot), K_8 x_rest x_shares u_2 u_4 u_5 → va_P (dC, dI) zz_cl [(q_this, .inr (1, [.ref q_rest, .ref q_shares, .int x_known])), (q_rest, .inl (k_rest, 4, .inr (.inl x_rest))), (q_shares, .inl (k_shares, 4, .inr (.inl x_shares))), (q_p0, .inr (2, [.ref q_p0_cells, .ref q_p0_beginnings, .int x_p0_height, .int x_p0_width, .int x_p0_imageHeight])), (q_p0_cells, .inl (k_p0_cells, 32, .inr (.inl x_p0_cells)))] H → va_D A [(q_this, .inr (1, [.ref q_rest, .ref q_shares, .int x_known])), (q_rest, .inl (k_rest, 4, .inr (.inl x_rest))), (q_shares, .inl (k_shares, 4, .inr (.inl x_shares))), (q_p0, .inr (2, [.ref q_p0_cells, .ref q_p0_beginnings, .int x_p0_height, .int x_p0_width, .int x_p0_imageHeight])), (q_p0_cells, .inl (k_p0_cells, 32, .inr (.inl x_p0_cells)))] → va_S A s.heap H locs → lv_has ls 10 [(0, .ref q_this), (1, .ref q_p0), (2, .long u_2), (4, .int u_4), (5, .int u_5)] → W p l e rm_PW_find s m args below meth c H locs 0 0 (MQ below (qz_PW_find dC dI q_this q_rest q_shares q_p0 q_p0_cells q_p0_beginnings k_rest k_shares k_p0_cells x_p0_height x_p0_width x_p0_imageHeight x_p0_cells post A) args s 0 0 A) (F0 m 8 ls [])) {x_rest : Nat → Int64} {x_shares : Nat → Int64} {u_2 : Int64} {u_4 : Int32} {u_5 : Int32} (hw : wp_PW_find_98 x_known x_p0_height x_p0_width x_p0_imageHeight x_p0_cells post K_8 x_rest x_shares u_2 u_4 u_5) {H : Heap} {locs : List Loc} {ls : Array Slot} (hP : va_P (dC, dI) zz_cl [(q_this, .inr (1, [.ref q_rest, .ref q_shares, .int x_known])), (q_rest, .inl (k_rest, 4, .inr (.inl x_rest))), (q_shares, .inl (k_shares, 4, .inr (.inl x_shares))), (q_p0, .inr (2, [.ref q_p0_cells, .ref q_p0_beginnings, .int x_p0_height, .int x_p0_width, .int x_p0_imageHeight])), (q_p0_cells, .inl (k_p0_cells, 32, .inr (.inl x_p0_cells)))] H) (hD : va_D A [(q_this, .inr (1, [.ref q_rest, .ref q_shares, .int x_known])), (q_rest, .inl (k_rest, 4, .inr (.inl x_rest))), (q_shares, .inl (k_shares, 4, .inr (.inl x_shares))), (q_p0, .inr (2, [.ref q_p0_cells, .ref q_p0_beginnings, .int x_p0_height, .int x_p0_width, .int x_p0_imageHeight])), (q_p0_cells, .inl (k_p0_cells, 32, .inr (.inl x_p0_cells)))]) (hS : va_S A s.heap H locs) (hl : lv_has ls 10 [(0, .ref q_this), (1, .ref q_p0), (2, .long u_2), (4, .int u_4), (5, .int u_5)]) : W p l e rm_PW_find s m args below meth c H locs 0 0 (MQ below (qz_PW_find dC dI q_this q_rest q_shares q_p0 q_p0_cells q_p0_beginnings k_rest k_shares k_p0_cells x_p0_height x_p0_width x_p0_imageHeight x_p0_cells post A) args s 0 0 A) (F0 m 98 ls []) := by
  have C1 := C0
  obtain ⟨hx, hb, hr, hml, hown, hts, hlocks⟩ := C1
  unfold wp_PW_find_98 at hw
  obtain ⟨v_9, ev_9⟩ : ∃ y : Int32, y = u_5 + 1 := ⟨_, rfl⟩
  replace hw := hw v_9 ev_9
  refine lv_iinc (v := v_9) (lv' := [(5, .int v_9), (0, .ref q_this), (1, .ref q_p0), (2, .long u_2), (4, .int u_4)]) hx hb d_PW_find_98 hl (k := 4) rfl (by rw [ev_9]; rfl) (by decide) rfl (fun ls hl => ?_)
  refine lv_goto (tgt := 8) hx hb d_PW_find_101 (by decide) ?_
  exact hg_8 x_rest x_shares u_2 u_4 v_9 H locs ls hw hP hD hS (lv_sub hl [1, 2, 3, 4, 0] rfl)
def wp_PW_find_35 (x_known : Int32) (x_p0_height : Int32) (x_p0_width : Int32) (x_p0_imageHeight : Int32) (x_p0_cells : Nat → Int64) (post : Int64 → Int32 → (Nat → Int64) → (Nat → Int64) → Prop) (K_8 : (Nat → Int64) → (Nat → Int64) → Int64 → Int32 → Int32 → Prop) (x_rest : Nat → Int64) (x_shares : Nat → Int64) (u_2 : Int64) (u_4 : Int32) (u_5 : Int32) (t_0 : Int64) : Prop := ((lg_cmp t_0 0) ≤ 0 → (wp_PW_find_98 x_known x_p0_height x_p0_width x_p0_imageHeight x_p0_cells post K_8 x_rest x_shares u_2 u_4 u_5)) ∧ (¬ (lg_cmp t_0 0) ≤ 0 → (vp_in u_5 4 ∧ (wp_PW_missingMultiple t_0 (x_rest u_5.toNatClampNeg) (fun (r_11 : Int64) => (∀ v_12 : Int64, v_12 = u_2 * r_11 → (wp_PW_widen x_known x_rest x_shares r_11 u_4 (fun (m_13 : Nat → Int64) (m_14 : Nat → Int64) => (vp_in u_5 4 ∧ (¬ t_0 = 0 ∧ (vp_in u_4 4 ∧ ∀ w_18 : Nat → Int64, w_18 = vp_updL m_14 u_4.toNatClampNeg ((m_13 u_5.toNatClampNeg) / t_0) → (wp_PW_takeAwayShare x_known m_13 w_18 x_p0_height x_p0_width x_p0_imageHeight x_p0_cells u_4 (fun (m_19 : Nat → Int64) => (∀ v_20 : Int32, v_20 = u_4 + 1 → (wp_PW_find_98 x_known x_p0_height x_p0_width x_p0_imageHeight x_p0_cells post K_8 m_19 w_18 v_12 v_20 u_5))))))))))))))
set_option maxHeartbeats 4000000 in
set_option maxRecDepth 100000 in
theorem k_PW_find_35 {p : Program} {l : Launch} {e : Env} {s : State} {m : MethodId} {args : Array Value} {below : List Frame} {meth : Method} {c : Code} {dC : Nat → ClassId} {dI : Nat → Nat → Nat} {A : Nat → Prop} {q_this q_rest q_shares q_p0 q_p0_cells q_p0_beginnings : Nat} {k_rest k_shares k_p0_cells : ClassId} {sa : Nat → Nat} {x_known : Int32} {x_p0_height : Int32} {x_p0_width : Int32} {x_p0_imageHeight : Int32} {x_p0_cells : Nat → Int64} {post : Int64 → Int32 → (Nat → Int64) → (Nat → Int64) → Prop} {K_8 : (Nat → Int64) → (Nat → Int64) → Int64 → Int32 → Int32 → Prop} (C0 : cx_PW_find p s m args meth c) (hX : zz_X sa A s) (hA : ∀ q : Nat, s.heap.size ≤ q → A q) (hK : va_K (dC, dI) zz_cl [(k_rest, .long), (k_shares, .long), (k_p0_cells, .long)] s) (hg_8 : ∀ (x_rest : Nat → Int64) (x_shares : Nat → Int64) (u_2 : Int64) (u_4 : Int32) (u_5 : Int32) (H : Heap) (locs : List Loc) (ls : Array Slot), K_8 x_rest x_shares u_2 u_4 u_5 → va_P (dC, dI) zz_cl [(q_this, .inr (1, [.ref q_rest, .ref q_shares, .int x_known])), (q_rest, .inl (k_rest, 4, .inr (.inl x_rest))), (q_shares, .inl (k_shares, 4, .inr (.inl x_shares))), (q_p0, .inr (2, [.ref q_p0_cells, .ref q_p0_beginnings, .int x_p0_height, .int x_p0_width, .int x_p0_imageHeight])), (q_p0_cells, .inl (k_p0_cells, 32, .inr (.inl x_p0_cells)))] H → va_D A [(q_this, .inr (1, [.ref q_rest, .ref q_shares, .int x_known])), (q_rest, .inl (k_rest, 4, .inr (.inl x_rest))), (q_shares, .inl (k_shares, 4, .inr (.inl x_shares))), (q_p0, .inr (2, [.ref q_p0_cells, .ref q_p0_beginnings, .int x_p0_height, .int x_p0_width, .int x_p0_imageHeight])), (q_p0_cells, .inl (k_p0_cells, 32, .inr (.inl x_p0_cells)))] → va_S A s.heap H locs → lv_has ls 10 [(0, .ref q_this), (1, .ref q_p0), (2, .long u_2), (4, .int u_4), (5, .int u_5)] → W p l e rm_PW_find s m args below meth c H locs 0 0 (MQ below (qz_PW_find dC dI q_this q_rest q_shares q_p0 q_p0_cells q_p0_beginnings k_rest k_shares k_p0_cells x_p0_height x_p0_width x_p0_imageHeight x_p0_cells post A) args s 0 0 A) (F0 m 8 ls [])) {x_rest : Nat → Int64} {x_shares : Nat → Int64} {u_2 : Int64} {u_4 : Int32} {u_5 : Int32} {t_0 : Int64} (hw : wp_PW_find_35 x_known x_p0_height x_p0_width x_p0_imageHeight x_p0_cells post K_8 x_rest x_shares u_2 u_4 u_5 t_0) {H : Heap} {locs : List Loc} {ls : Array Slot} (hP : va_P (dC, dI) zz_cl [(q_this, .inr (1, [.ref q_rest, .ref q_shares, .int x_known])), (q_rest, .inl (k_rest, 4, .inr (.inl x_rest))), (q_shares, .inl (k_shares, 4, .inr (.inl x_shares))), (q_p0, .inr (2, [.ref q_p0_cells, .ref q_p0_beginnings, .int x_p0_height, .int x_p0_width, .int x_p0_imageHeight])), (q_p0_cells, .inl (k_p0_cells, 32, .inr (.inl x_p0_cells)))] H) (hD : va_D A [(q_this, .inr (1, [.ref q_rest, .ref q_shares, .int x_known])), (q_rest, .inl (k_rest, 4, .inr (.inl x_rest))), (q_shares, .inl (k_shares, 4, .inr (.inl x_shares))), (q_p0, .inr (2, [.ref q_p0_cells, .ref q_p0_beginnings, .int x_p0_height, .int x_p0_width, .int x_p0_imageHeight])), (q_p0_cells, .inl (k_p0_cells, 32, .inr (.inl x_p0_cells)))]) (hS : va_S A s.heap H locs) (hl : lv_has ls 10 [(0, .ref q_this), (1, .ref q_p0), (2, .long u_2), (4, .int u_4), (5, .int u_5)]) : W p l e rm_PW_find s m args below meth c H locs 0 0 (MQ below (qz_PW_find dC dI q_this q_rest q_shares q_p0 q_p0_cells q_p0_beginnings k_rest k_shares k_p0_cells x_p0_height x_p0_width x_p0_imageHeight x_p0_cells post A) args s 0 0 A) (F0 m 35 ls [.long t_0]) := by
  have C1 := C0
  obtain ⟨hx, hb, hr, hml, hown, hts, hlocks⟩ := C1
  unfold wp_PW_find_35 at hw
  refine lv_lstore (lv' := [(6, .long t_0), (0, .ref q_this), (1, .ref q_p0), (2, .long u_2), (4, .int u_4), (5, .int u_5)]) hx hb d_PW_find_35 hl (by decide) rfl (fun ls hl => ?_)
  refine lv_lload hx hb d_PW_find_37 (lv_at hl 0 rfl) ?_
  refine lv_lconst (v := 0) hx hb d_PW_find_39 (by decide) ?_
  refine W.lcmp hx hb d_PW_find_40 ?_
  refine lv_if_le (tgt := 98) hx hb d_PW_find_41 (by decide) (fun h_8 => ?_) (fun h_8 => ?_)
  · replace hw := hw.1 h_8
    exact k_PW_find_98 C0 hX hA hK hg_8 hw hP hD hS (lv_sub hl [1, 2, 3, 4, 5] rfl)
  · replace hw := hw.2 h_8
    refine lv_lload hx hb d_PW_find_44 (lv_at hl 0 rfl) ?_
    refine lv_aload_n hx hb d_PW_find_46 rfl (lv_at hl 1 rfl) ?_
    refine va_get (D := (dC, dI)) (ci := 1) (v := .ref q_rest) (C := "StructureRows$Power") (T := T_PW) (N := 3) hx hb hts in_PW hown hK hP 0 rfl rfl 0 (by decide) (hts _ tw_95) (fun _ h9 => h9) rfl d_PW_find_47 ?_
    refine lv_iload hx hb d_PW_find_50 (lv_at hl 5 rfl) ?_
    obtain ⟨h_10, hw⟩ := hw
    refine va_lald hx hb hK hP 1 0 rfl rfl h_10 d_PW_find_52 ?_
    refine go_PW_missingMultiple (wr := [(q_this, .inr (1, [.ref q_rest, .ref q_shares, .int x_known])), (q_rest, .inl (k_rest, 4, .inr (.inl x_rest))), (q_shares, .inl (k_shares, 4, .inr (.inl x_shares))), (q_p0, .inr (2, [.ref q_p0_cells, .ref q_p0_beginnings, .int x_p0_height, .int x_p0_width, .int x_p0_imageHeight])), (q_p0_cells, .inl (k_p0_cells, 32, .inr (.inl x_p0_cells)))]) ⟨hx, hb, hml, hown, hts⟩ (zz_cwS 2 hts tw_447 tw_445 tw_446 tw_34 ⟨by decide, by decide, by decide +kernel⟩ ⟨Nat.le_of_ble_eq_true rfl, Nat.le_of_ble_eq_true rfl⟩) hK hP hD hS hA [] [0, 1, 2, 3, 4] [] rfl rfl (by decide) rfl (by decide) (by decide) rfl hX hw hl.1 (Nat.le_of_ble_eq_true rfl) d_PW_find_53 ⟨Nat.le_of_ble_eq_true rfl, Nat.le_of_ble_eq_true rfl⟩ (fun r_11 H locs hw hP hD hS => ?_)
    replace hP : va_P (dC, dI) zz_cl [(q_this, .inr (1, [.ref q_rest, .ref q_shares, .int x_known])), (q_rest, .inl (k_rest, 4, .inr (.inl x_rest))), (q_shares, .inl (k_shares, 4, .inr (.inl x_shares))), (q_p0, .inr (2, [.ref q_p0_cells, .ref q_p0_beginnings, .int x_p0_height, .int x_p0_width, .int x_p0_imageHeight])), (q_p0_cells, .inl (k_p0_cells, 32, .inr (.inl x_p0_cells)))] H := hP
    replace hD : va_D A [(q_this, .inr (1, [.ref q_rest, .ref q_shares, .int x_known])), (q_rest, .inl (k_rest, 4, .inr (.inl x_rest))), (q_shares, .inl (k_shares, 4, .inr (.inl x_shares))), (q_p0, .inr (2, [.ref q_p0_cells, .ref q_p0_beginnings, .int x_p0_height, .int x_p0_width, .int x_p0_imageHeight])), (q_p0_cells, .inl (k_p0_cells, 32, .inr (.inl x_p0_cells)))] := hD
    refine lv_lstore (lv' := [(8, .long r_11), (6, .long t_0), (0, .ref q_this), (1, .ref q_p0), (2, .long u_2), (4, .int u_4), (5, .int u_5)]) hx hb d_PW_find_56 hl (by decide) rfl (fun ls hl => ?_)
    refine lv_lload_n hx hb d_PW_find_58 rfl (lv_at hl 4 rfl) ?_
    refine lv_lload hx hb d_PW_find_59 (lv_at hl 0 rfl) ?_
    refine lv_lmul hx hb d_PW_find_61 ?_
    refine lv_topl (fun v_12 ev_12 => ?_)
    replace hw := hw v_12 ev_12
    refine lv_lstore_n (lv' := [(2, .long v_12), (8, .long r_11), (6, .long t_0), (0, .ref q_this), (1, .ref q_p0), (4, .int u_4), (5, .int u_5)]) hx hb d_PW_find_62 rfl hl (by decide) rfl (fun ls hl => ?_)
    refine lv_aload_n hx hb d_PW_find_63 rfl (lv_at hl 3 rfl) ?_
    refine lv_lload hx hb d_PW_find_64 (lv_at hl 1 rfl) ?_
    refine lv_iload hx hb d_PW_find_66 (lv_at hl 5 rfl) ?_
    refine go_PW_widen (wr := [(q_p0, .inr (2, [.ref q_p0_cells, .ref q_p0_beginnings, .int x_p0_height, .int x_p0_width, .int x_p0_imageHeight])), (q_p0_cells, .inl (k_p0_cells, 32, .inr (.inl x_p0_cells)))]) ⟨hx, hb, hml, hown, hts⟩ (zz_cwV 2 hts tw_452 tw_449 tw_451 tw_13 tw_34 ⟨by decide, by decide, by decide +kernel⟩ ⟨Nat.le_of_ble_eq_true rfl, Nat.le_of_ble_eq_true rfl⟩) hK hP hD hS hA [0, 1, 2] [3, 4] [0, 1] rfl rfl (by decide) rfl (by decide) (by decide) rfl hw hl.1 (Nat.le_of_ble_eq_true rfl) d_PW_find_68 ⟨Nat.le_of_ble_eq_true rfl, Nat.le_of_ble_eq_true rfl⟩ (fun m_13 m_14 H locs hw hP hD hS => ?_)
    replace hP : va_P (dC, dI) zz_cl [(q_p0, .inr (2, [.ref q_p0_cells, .ref q_p0_beginnings, .int x_p0_height, .int x_p0_width, .int x_p0_imageHeight])), (q_p0_cells, .inl (k_p0_cells, 32, .inr (.inl x_p0_cells))), (q_this, .inr (1, [.ref q_rest, .ref q_shares, .int x_known])), (q_rest, .inl (k_rest, 4, .inr (.inl m_13))), (q_shares, .inl (k_shares, 4, .inr (.inl m_14)))] H := hP
    replace hD : va_D A [(q_p0, .inr (2, [.ref q_p0_cells, .ref q_p0_beginnings, .int x_p0_height, .int x_p0_width, .int x_p0_imageHeight])), (q_p0_cells, .inl (k_p0_cells, 32, .inr (.inl x_p0_cells))), (q_this, .inr (1, [.ref q_rest, .ref q_shares, .int x_known])), (q_rest, .inl (k_rest, 4, .inr (.inl m_13))), (q_shares, .inl (k_shares, 4, .inr (.inl m_14)))] := hD
    refine lv_aload_n hx hb d_PW_find_71 rfl (lv_at hl 3 rfl) ?_
    refine va_get (D := (dC, dI)) (ci := 1) (v := .ref q_shares) (C := "StructureRows$Power") (T := T_PW) (N := 3) hx hb hts in_PW hown hK hP 2 rfl rfl 1 (by decide) (hts _ tw_96) (fun _ h9 => h9) rfl d_PW_find_72 ?_
    refine lv_iload hx hb d_PW_find_75 (lv_at hl 5 rfl) ?_
    refine lv_aload_n hx hb d_PW_find_77 rfl (lv_at hl 3 rfl) ?_
    refine va_get (D := (dC, dI)) (ci := 1) (v := .ref q_rest) (C := "StructureRows$Power") (T := T_PW) (N := 3) hx hb hts in_PW hown hK hP 2 rfl rfl 0 (by decide) (hts _ tw_95) (fun _ h9 => h9) rfl d_PW_find_78 ?_
    refine lv_iload hx hb d_PW_find_81 (lv_at hl 6 rfl) ?_
    obtain ⟨h_15, hw⟩ := hw
    refine va_lald hx hb hK hP 3 0 rfl rfl h_15 d_PW_find_83 ?_
    refine lv_lload hx hb d_PW_find_84 (lv_at hl 2 rfl) ?_
    obtain ⟨h_16, hw⟩ := hw
    refine lv_ldiv hx hb d_PW_find_86 h_16 ?_
    obtain ⟨h_17, hw⟩ := hw
    obtain ⟨w_18, ew_18⟩ : ∃ y : Nat → Int64, y = vp_updL m_14 u_4.toNatClampNeg ((m_13 u_5.toNatClampNeg) / t_0) := ⟨_, rfl⟩
    replace hw := hw w_18 ew_18
    refine va_last hx hb hK hP hD hS 4 1 rfl rfl h_17 d_PW_find_87 (fun H locs hP hD hS => ?_)
    rw [← ew_18] at hP hD
    replace hP : va_P (dC, dI) zz_cl [(q_p0, .inr (2, [.ref q_p0_cells, .ref q_p0_beginnings, .int x_p0_height, .int x_p0_width, .int x_p0_imageHeight])), (q_p0_cells, .inl (k_p0_cells, 32, .inr (.inl x_p0_cells))), (q_this, .inr (1, [.ref q_rest, .ref q_shares, .int x_known])), (q_rest, .inl (k_rest, 4, .inr (.inl m_13))), (q_shares, .inl (k_shares, 4, .inr (.inl w_18)))] H := hP
    replace hD : va_D A [(q_p0, .inr (2, [.ref q_p0_cells, .ref q_p0_beginnings, .int x_p0_height, .int x_p0_width, .int x_p0_imageHeight])), (q_p0_cells, .inl (k_p0_cells, 32, .inr (.inl x_p0_cells))), (q_this, .inr (1, [.ref q_rest, .ref q_shares, .int x_known])), (q_rest, .inl (k_rest, 4, .inr (.inl m_13))), (q_shares, .inl (k_shares, 4, .inr (.inl w_18)))] := hD
    refine lv_aload_n hx hb d_PW_find_88 rfl (lv_at hl 3 rfl) ?_
    refine lv_aload_n hx hb d_PW_find_89 rfl (lv_at hl 4 rfl) ?_
    refine lv_iload hx hb d_PW_find_90 (lv_at hl 5 rfl) ?_
    refine go_PW_takeAwayShare (wr := []) ⟨hx, hb, hml, hown, hts⟩ (zz_cwV 2 hts tw_456 tw_453 tw_455 tw_14 tw_34 ⟨by decide, by decide, by decide +kernel⟩ ⟨Nat.le_of_ble_eq_true rfl, Nat.le_of_ble_eq_true rfl⟩) hK hP hD hS hA [2, 3, 4, 0, 1] [] [0, 1, 2] rfl rfl (by decide) rfl (by decide) (by decide) rfl hw hl.1 (Nat.le_of_ble_eq_true rfl) d_PW_find_92 ⟨Nat.le_of_ble_eq_true rfl, Nat.le_of_ble_eq_true rfl⟩ (fun m_19 H locs hw hP hD hS => ?_)
    replace hP : va_P (dC, dI) zz_cl [(q_this, .inr (1, [.ref q_rest, .ref q_shares, .int x_known])), (q_rest, .inl (k_rest, 4, .inr (.inl m_19))), (q_shares, .inl (k_shares, 4, .inr (.inl w_18))), (q_p0, .inr (2, [.ref q_p0_cells, .ref q_p0_beginnings, .int x_p0_height, .int x_p0_width, .int x_p0_imageHeight])), (q_p0_cells, .inl (k_p0_cells, 32, .inr (.inl x_p0_cells)))] H := hP
    replace hD : va_D A [(q_this, .inr (1, [.ref q_rest, .ref q_shares, .int x_known])), (q_rest, .inl (k_rest, 4, .inr (.inl m_19))), (q_shares, .inl (k_shares, 4, .inr (.inl w_18))), (q_p0, .inr (2, [.ref q_p0_cells, .ref q_p0_beginnings, .int x_p0_height, .int x_p0_width, .int x_p0_imageHeight])), (q_p0_cells, .inl (k_p0_cells, 32, .inr (.inl x_p0_cells)))] := hD
    obtain ⟨v_20, ev_20⟩ : ∃ y : Int32, y = u_4 + 1 := ⟨_, rfl⟩
    replace hw := hw v_20 ev_20
    refine lv_iinc (v := v_20) (lv' := [(4, .int v_20), (2, .long v_12), (8, .long r_11), (6, .long t_0), (0, .ref q_this), (1, .ref q_p0), (5, .int u_5)]) hx hb d_PW_find_95 hl (k := 5) rfl (by rw [ev_20]; rfl) (by decide) rfl (fun ls hl => ?_)
    exact k_PW_find_98 C0 hX hA hK hg_8 hw hP hD hS (lv_sub hl [4, 5, 1, 0, 6] rfl)
def wp_PW_find_8b (x_known : Int32) (x_p0_height : Int32) (x_p0_width : Int32) (x_p0_imageHeight : Int32) (x_p0_cells : Nat → Int64) (post : Int64 → Int32 → (Nat → Int64) → (Nat → Int64) → Prop)  (P : (Nat → Int64) → (Nat → Int64) → Int64 → Int32 → Int32 → Prop) (x_rest : Nat → Int64) (x_shares : Nat → Int64) (u_2 : Int64) (u_4 : Int32) (u_5 : Int32) : Prop := (4 ≤ u_5 → (wp_PW_isNothingLeft x_known x_rest (fun (r_2 : Int32) => (narrow .boolean (.int r_2) = .int r_2 ∧ fits .boolean (.int r_2) = true ∧ ((r_2 = 0 → (post 0 r_2 x_rest x_shares)) ∧ (¬ r_2 = 0 → (post u_2 r_2 x_rest x_shares))))))) ∧ (¬ 4 ≤ u_5 → (wp_RD_imageRows x_p0_height x_p0_width x_p0_imageHeight (fun (r_6 : Int32) => ((r_6 ≤ u_4 → (wp_PW_find_35 x_known x_p0_height x_p0_width x_p0_imageHeight x_p0_cells post P x_rest x_shares u_2 u_4 u_5 0)) ∧ (¬ r_6 ≤ u_4 → (wp_RD_image x_p0_height x_p0_width x_p0_imageHeight x_p0_cells u_4 u_5 (fun (r_21 : Int64) => (wp_PW_find_35 x_known x_p0_height x_p0_width x_p0_imageHeight x_p0_cells post P x_rest x_shares u_2 u_4 u_5 r_21))))))))
def wp_PW_find_8 (x_known : Int32) (x_p0_height : Int32) (x_p0_width : Int32) (x_p0_imageHeight : Int32) (x_p0_cells : Nat → Int64) (post : Int64 → Int32 → (Nat → Int64) → (Nat → Int64) → Prop)  (x_rest : Nat → Int64) (x_shares : Nat → Int64) (u_2 : Int64) (u_4 : Int32) (u_5 : Int32) : Prop := ∀ P : (Nat → Int64) → (Nat → Int64) → Int64 → Int32 → Int32 → Prop, (∀ (x_rest : Nat → Int64) (x_shares : Nat → Int64) (u_2 : Int64) (u_4 : Int32) (u_5 : Int32), wp_PW_find_8b x_known x_p0_height x_p0_width x_p0_imageHeight x_p0_cells post P x_rest x_shares u_2 u_4 u_5 → P x_rest x_shares u_2 u_4 u_5) → P x_rest x_shares u_2 u_4 u_5
set_option maxHeartbeats 4000000 in
set_option maxRecDepth 100000 in
theorem k_PW_find_8 {p : Program} {l : Launch} {e : Env} {s : State} {m : MethodId} {args : Array Value} {below : List Frame} {meth : Method} {c : Code} {dC : Nat → ClassId} {dI : Nat → Nat → Nat} {A : Nat → Prop} {q_this q_rest q_shares q_p0 q_p0_cells q_p0_beginnings : Nat} {k_rest k_shares k_p0_cells : ClassId} {sa : Nat → Nat} {x_known : Int32} {x_p0_height : Int32} {x_p0_width : Int32} {x_p0_imageHeight : Int32} {x_p0_cells : Nat → Int64} {post : Int64 → Int32 → (Nat → Int64) → (Nat → Int64) → Prop}  (C0 : cx_PW_find p s m args meth c) (hX : zz_X sa A s) (hA : ∀ q : Nat, s.heap.size ≤ q → A q) (hK : va_K (dC, dI) zz_cl [(k_rest, .long), (k_shares, .long), (k_p0_cells, .long)] s) {x_rest : Nat → Int64} {x_shares : Nat → Int64} {u_2 : Int64} {u_4 : Int32} {u_5 : Int32} (hw : wp_PW_find_8 x_known x_p0_height x_p0_width x_p0_imageHeight x_p0_cells post x_rest x_shares u_2 u_4 u_5) {H : Heap} {locs : List Loc} {ls : Array Slot} (hP : va_P (dC, dI) zz_cl [(q_this, .inr (1, [.ref q_rest, .ref q_shares, .int x_known])), (q_rest, .inl (k_rest, 4, .inr (.inl x_rest))), (q_shares, .inl (k_shares, 4, .inr (.inl x_shares))), (q_p0, .inr (2, [.ref q_p0_cells, .ref q_p0_beginnings, .int x_p0_height, .int x_p0_width, .int x_p0_imageHeight])), (q_p0_cells, .inl (k_p0_cells, 32, .inr (.inl x_p0_cells)))] H) (hD : va_D A [(q_this, .inr (1, [.ref q_rest, .ref q_shares, .int x_known])), (q_rest, .inl (k_rest, 4, .inr (.inl x_rest))), (q_shares, .inl (k_shares, 4, .inr (.inl x_shares))), (q_p0, .inr (2, [.ref q_p0_cells, .ref q_p0_beginnings, .int x_p0_height, .int x_p0_width, .int x_p0_imageHeight])), (q_p0_cells, .inl (k_p0_cells, 32, .inr (.inl x_p0_cells)))]) (hS : va_S A s.heap H locs) (hl : lv_has ls 10 [(0, .ref q_this), (1, .ref q_p0), (2, .long u_2), (4, .int u_4), (5, .int u_5)]) : W p l e rm_PW_find s m args below meth c H locs 0 0 (MQ below (qz_PW_find dC dI q_this q_rest q_shares q_p0 q_p0_cells q_p0_beginnings k_rest k_shares k_p0_cells x_p0_height x_p0_width x_p0_imageHeight x_p0_cells post A) args s 0 0 A) (F0 m 8 ls []) := by
  have C1 := C0
  obtain ⟨hx, hb, hr, hml, hown, hts, hlocks⟩ := C1
  refine hw (fun (x_rest : Nat → Int64) (x_shares : Nat → Int64) (u_2 : Int64) (u_4 : Int32) (u_5 : Int32) => ∀ (H : Heap) (locs : List Loc) (ls : Array Slot), va_P (dC, dI) zz_cl [(q_this, .inr (1, [.ref q_rest, .ref q_shares, .int x_known])), (q_rest, .inl (k_rest, 4, .inr (.inl x_rest))), (q_shares, .inl (k_shares, 4, .inr (.inl x_shares))), (q_p0, .inr (2, [.ref q_p0_cells, .ref q_p0_beginnings, .int x_p0_height, .int x_p0_width, .int x_p0_imageHeight])), (q_p0_cells, .inl (k_p0_cells, 32, .inr (.inl x_p0_cells)))] H → va_D A [(q_this, .inr (1, [.ref q_rest, .ref q_shares, .int x_known])), (q_rest, .inl (k_rest, 4, .inr (.inl x_rest))), (q_shares, .inl (k_shares, 4, .inr (.inl x_shares))), (q_p0, .inr (2, [.ref q_p0_cells, .ref q_p0_beginnings, .int x_p0_height, .int x_p0_width, .int x_p0_imageHeight])), (q_p0_cells, .inl (k_p0_cells, 32, .inr (.inl x_p0_cells)))] → va_S A s.heap H locs → lv_has ls 10 [(0, .ref q_this), (1, .ref q_p0), (2, .long u_2), (4, .int u_4), (5, .int u_5)] → W p l e rm_PW_find s m args below meth c H locs 0 0 (MQ below (qz_PW_find dC dI q_this q_rest q_shares q_p0 q_p0_cells q_p0_beginnings k_rest k_shares k_p0_cells x_p0_height x_p0_width x_p0_imageHeight x_p0_cells post A) args s 0 0 A) (F0 m 8 ls [])) ?_ H locs ls hP hD hS hl
  clear hw hP hD hS hl H locs ls
  intro x_rest x_shares u_2 u_4 u_5 hw H locs ls hP hD hS hl
  unfold wp_PW_find_8b at hw
  refine lv_iload hx hb d_PW_find_8 (lv_at hl 4 rfl) ?_
  refine lv_iconst (v := 4) hx hb d_PW_find_10 (by decide) ?_
  refine lv_icmp_ge (tgt := 104) hx hb d_PW_find_11 (by decide) (fun h_1 => ?_) (fun h_1 => ?_)
  · replace hw := hw.1 h_1
    refine lv_aload_n hx hb d_PW_find_104 rfl (lv_at hl 0 rfl) ?_
    refine lv_aload_n hx hb d_PW_find_105 rfl (lv_at hl 0 rfl) ?_
    refine go_PW_isNothingLeft (wr := [(q_shares, .inl (k_shares, 4, .inr (.inl x_shares))), (q_p0, .inr (2, [.ref q_p0_cells, .ref q_p0_beginnings, .int x_p0_height, .int x_p0_width, .int x_p0_imageHeight])), (q_p0_cells, .inl (k_p0_cells, 32, .inr (.inl x_p0_cells)))]) ⟨hx, hb, hml, hown, hts⟩ (zz_cwV 0 hts tw_460 tw_457 tw_459 tw_15 tw_34 ⟨by decide, by decide, by decide +kernel⟩ ⟨Nat.le_of_ble_eq_true rfl, Nat.le_of_ble_eq_true rfl⟩) hK hP hD hS hA [0, 1] [2, 3, 4] [0] rfl rfl (by decide) rfl (by decide) (by decide) rfl hw hl.1 (Nat.le_of_ble_eq_true rfl) d_PW_find_106 ⟨Nat.le_of_ble_eq_true rfl, Nat.le_of_ble_eq_true rfl⟩ (fun r_2 H locs hw hP hD hS => ?_)
    replace hP : va_P (dC, dI) zz_cl [(q_shares, .inl (k_shares, 4, .inr (.inl x_shares))), (q_p0, .inr (2, [.ref q_p0_cells, .ref q_p0_beginnings, .int x_p0_height, .int x_p0_width, .int x_p0_imageHeight])), (q_p0_cells, .inl (k_p0_cells, 32, .inr (.inl x_p0_cells))), (q_this, .inr (1, [.ref q_rest, .ref q_shares, .int x_known])), (q_rest, .inl (k_rest, 4, .inr (.inl x_rest)))] H := hP
    replace hD : va_D A [(q_shares, .inl (k_shares, 4, .inr (.inl x_shares))), (q_p0, .inr (2, [.ref q_p0_cells, .ref q_p0_beginnings, .int x_p0_height, .int x_p0_width, .int x_p0_imageHeight])), (q_p0_cells, .inl (k_p0_cells, 32, .inr (.inl x_p0_cells))), (q_this, .inr (1, [.ref q_rest, .ref q_shares, .int x_known])), (q_rest, .inl (k_rest, 4, .inr (.inl x_rest)))] := hD
    obtain ⟨h_3, h_4, hw⟩ := hw
    refine va_put (D := (dC, dI)) (ci := 1) (v := .int r_2) (ty := .boolean) (C := "StructureRows$Power") (T := T_PW) (N := 3) hx hb hts in_PW ty_PW tyok_PW nm_PW hown hK hP hD hS 3 rfl rfl 2 (by decide) (hts _ tw_97) (fun _ h9 => h9) rfl (by decide +kernel) h_3 h_4 (Nat.le_of_ble_eq_true rfl) d_PW_find_109 (fun H locs hP hD hS => ?_)
    replace hP : va_P (dC, dI) zz_cl [(q_shares, .inl (k_shares, 4, .inr (.inl x_shares))), (q_p0, .inr (2, [.ref q_p0_cells, .ref q_p0_beginnings, .int x_p0_height, .int x_p0_width, .int x_p0_imageHeight])), (q_p0_cells, .inl (k_p0_cells, 32, .inr (.inl x_p0_cells))), (q_this, .inr (1, [.ref q_rest, .ref q_shares, .int r_2])), (q_rest, .inl (k_rest, 4, .inr (.inl x_rest)))] H := hP
    replace hD : va_D A [(q_shares, .inl (k_shares, 4, .inr (.inl x_shares))), (q_p0, .inr (2, [.ref q_p0_cells, .ref q_p0_beginnings, .int x_p0_height, .int x_p0_width, .int x_p0_imageHeight])), (q_p0_cells, .inl (k_p0_cells, 32, .inr (.inl x_p0_cells))), (q_this, .inr (1, [.ref q_rest, .ref q_shares, .int r_2])), (q_rest, .inl (k_rest, 4, .inr (.inl x_rest)))] := hD
    refine lv_aload_n hx hb d_PW_find_112 rfl (lv_at hl 0 rfl) ?_
    refine va_get (D := (dC, dI)) (ci := 1) (v := .int r_2) (C := "StructureRows$Power") (T := T_PW) (N := 3) hx hb hts in_PW hown hK hP 3 rfl rfl 2 (by decide) (hts _ tw_97) (fun _ h9 => h9) rfl d_PW_find_113 ?_
    refine lv_if_eq (tgt := 123) hx hb d_PW_find_116 (by decide) (fun h_5 => ?_) (fun h_5 => ?_)
    · replace hw := hw.1 h_5
      refine lv_lconst (v := 0) hx hb d_PW_find_123 (by decide) ?_
      exact W.lret (v := 0) hx hb hr (fun t ht hW => ⟨⟨0, (r_2, x_rest, x_shares), rfl, hw, by rw [ht]; exact hP.sub [3, 4, 0, 1, 2] rfl, va_K.moved hW.alike hK, hD.sub [3, 4, 0, 1, 2] (by decide) rfl⟩, hS.F ht⟩) hS.2.2 d_PW_find_124
    · replace hw := hw.2 h_5
      refine lv_lload_n hx hb d_PW_find_119 rfl (lv_at hl 2 rfl) ?_
      refine lv_goto (tgt := 124) hx hb d_PW_find_120 (by decide) ?_
      exact W.lret (v := u_2) hx hb hr (fun t ht hW => ⟨⟨u_2, (r_2, x_rest, x_shares), rfl, hw, by rw [ht]; exact hP.sub [3, 4, 0, 1, 2] rfl, va_K.moved hW.alike hK, hD.sub [3, 4, 0, 1, 2] (by decide) rfl⟩, hS.F ht⟩) hS.2.2 d_PW_find_124
  · replace hw := hw.2 h_1
    refine lv_iload hx hb d_PW_find_14 (lv_at hl 3 rfl) ?_
    refine lv_aload_n hx hb d_PW_find_16 rfl (lv_at hl 1 rfl) ?_
    refine go_RD_imageRows (wr := [(q_this, .inr (1, [.ref q_rest, .ref q_shares, .int x_known])), (q_rest, .inl (k_rest, 4, .inr (.inl x_rest))), (q_shares, .inl (k_shares, 4, .inr (.inl x_shares))), (q_p0_cells, .inl (k_p0_cells, 32, .inr (.inl x_p0_cells)))]) ⟨hx, hb, hml, hown, hts⟩ (zz_cwV 0 hts tw_203 tw_443 tw_201 tw_202 tw_32 ⟨by decide, by decide, by decide +kernel⟩ ⟨Nat.le_of_ble_eq_true rfl, Nat.le_of_ble_eq_true rfl⟩) hK hP hD hS hA [3] [0, 1, 2, 4] [] rfl rfl (by decide) rfl (by decide) (by decide) rfl hw hl.1 (Nat.le_of_ble_eq_true rfl) d_PW_find_17 ⟨Nat.le_of_ble_eq_true rfl, Nat.le_of_ble_eq_true rfl⟩ (fun r_6 H locs hw hP hD hS => ?_)
    replace hP : va_P (dC, dI) zz_cl [(q_this, .inr (1, [.ref q_rest, .ref q_shares, .int x_known])), (q_rest, .inl (k_rest, 4, .inr (.inl x_rest))), (q_shares, .inl (k_shares, 4, .inr (.inl x_shares))), (q_p0_cells, .inl (k_p0_cells, 32, .inr (.inl x_p0_cells))), (q_p0, .inr (2, [.ref q_p0_cells, .ref q_p0_beginnings, .int x_p0_height, .int x_p0_width, .int x_p0_imageHeight]))] H := hP
    replace hD : va_D A [(q_this, .inr (1, [.ref q_rest, .ref q_shares, .int x_known])), (q_rest, .inl (k_rest, 4, .inr (.inl x_rest))), (q_shares, .inl (k_shares, 4, .inr (.inl x_shares))), (q_p0_cells, .inl (k_p0_cells, 32, .inr (.inl x_p0_cells))), (q_p0, .inr (2, [.ref q_p0_cells, .ref q_p0_beginnings, .int x_p0_height, .int x_p0_width, .int x_p0_imageHeight]))] := hD
    refine lv_icmp_ge (tgt := 34) hx hb d_PW_find_20 (by decide) (fun h_7 => ?_) (fun h_7 => ?_)
    · replace hw := hw.1 h_7
      refine lv_lconst (v := 0) hx hb d_PW_find_34 (by decide) ?_
      exact k_PW_find_35 C0 hX hA hK (fun y0 y1 y2 y3 y4 H locs ls h9 h1 h2 h3 h4 => h9 H locs ls h1 h2 h3 h4) hw (hP.sub [0, 1, 2, 4, 3] rfl) (hD.sub [0, 1, 2, 4, 3] (by decide) rfl) hS hl
    · replace hw := hw.2 h_7
      refine lv_aload_n hx hb d_PW_find_23 rfl (lv_at hl 1 rfl) ?_
      refine lv_iload hx hb d_PW_find_24 (lv_at hl 3 rfl) ?_
      refine lv_iload hx hb d_PW_find_26 (lv_at hl 4 rfl) ?_
      refine go_RD_image (wr := [(q_this, .inr (1, [.ref q_rest, .ref q_shares, .int x_known])), (q_rest, .inl (k_rest, 4, .inr (.inl x_rest))), (q_shares, .inl (k_shares, 4, .inr (.inl x_shares)))]) ⟨hx, hb, hml, hown, hts⟩ (zz_cwV 2 hts tw_389 tw_444 tw_387 tw_388 tw_32 ⟨by decide, by decide, by decide +kernel⟩ ⟨Nat.le_of_ble_eq_true rfl, Nat.le_of_ble_eq_true rfl⟩) hK hP hD hS hA [4, 3] [0, 1, 2] [2] rfl rfl (by decide) rfl (by decide) (by decide) rfl hw hl.1 (Nat.le_of_ble_eq_true rfl) d_PW_find_28 ⟨Nat.le_of_ble_eq_true rfl, Nat.le_of_ble_eq_true rfl⟩ (fun r_21 H locs hw hP hD hS => ?_)
      replace hP : va_P (dC, dI) zz_cl [(q_this, .inr (1, [.ref q_rest, .ref q_shares, .int x_known])), (q_rest, .inl (k_rest, 4, .inr (.inl x_rest))), (q_shares, .inl (k_shares, 4, .inr (.inl x_shares))), (q_p0, .inr (2, [.ref q_p0_cells, .ref q_p0_beginnings, .int x_p0_height, .int x_p0_width, .int x_p0_imageHeight])), (q_p0_cells, .inl (k_p0_cells, 32, .inr (.inl x_p0_cells)))] H := hP
      replace hD : va_D A [(q_this, .inr (1, [.ref q_rest, .ref q_shares, .int x_known])), (q_rest, .inl (k_rest, 4, .inr (.inl x_rest))), (q_shares, .inl (k_shares, 4, .inr (.inl x_shares))), (q_p0, .inr (2, [.ref q_p0_cells, .ref q_p0_beginnings, .int x_p0_height, .int x_p0_width, .int x_p0_imageHeight])), (q_p0_cells, .inl (k_p0_cells, 32, .inr (.inl x_p0_cells)))] := hD
      refine lv_goto (tgt := 35) hx hb d_PW_find_31 (by decide) ?_
      exact k_PW_find_35 C0 hX hA hK (fun y0 y1 y2 y3 y4 H locs ls h9 h1 h2 h3 h4 => h9 H locs ls h1 h2 h3 h4) hw hP hD hS hl
def wp_PW_find (x_known : Int32) (x_rest : Nat → Int64) (x_shares : Nat → Int64) (x_p0_height : Int32) (x_p0_width : Int32) (x_p0_imageHeight : Int32) (x_p0_cells : Nat → Int64)  (post : Int64 → Int32 → (Nat → Int64) → (Nat → Int64) → Prop) : Prop := wp_PW_find_8 x_known x_p0_height x_p0_width x_p0_imageHeight x_p0_cells post x_rest x_shares 1 0 0
set_option maxHeartbeats 4000000 in
set_option maxRecDepth 100000 in
theorem c_PW_find (l : Launch) (sa : Nat → Nat) (dC : Nat → ClassId) (dI : Nat → Nat → Nat) (q_this q_rest q_shares q_p0 q_p0_cells q_p0_beginnings : Nat) (k_rest k_shares k_p0_cells : ClassId) (sz : Nat) (x_known : Int32) (x_rest : Nat → Int64) (x_shares : Nat → Int64) (x_p0_height : Int32) (x_p0_width : Int32) (x_p0_imageHeight : Int32) (x_p0_cells : Nat → Int64)  (post : Int64 → Int32 → (Nat → Int64) → (Nat → Int64) → Prop) (hw : wp_PW_find x_known x_rest x_shares x_p0_height x_p0_width x_p0_imageHeight x_p0_cells post) : Met l y_PW_find (zz_w y_PW_find b_PW_find 10 (some .long)) rm_PW_find (va_Pc [.ref q_this, .ref q_p0] (fun U => U.heap.size = sz ∧ va_P (dC, dI) zz_cl [(q_this, .inr (1, [.ref q_rest, .ref q_shares, .int x_known])), (q_rest, .inl (k_rest, 4, .inr (.inl x_rest))), (q_shares, .inl (k_shares, 4, .inr (.inl x_shares))), (q_p0, .inr (2, [.ref q_p0_cells, .ref q_p0_beginnings, .int x_p0_height, .int x_p0_width, .int x_p0_imageHeight])), (q_p0_cells, .inl (k_p0_cells, 32, .inr (.inl x_p0_cells)))] U.heap ∧ va_K (dC, dI) zz_cl [(k_rest, .long), (k_shares, .long), (k_p0_cells, .long)] U ∧ va_D (fun _ => True) [(q_this, .inr (1, [.ref q_rest, .ref q_shares, .int x_known])), (q_rest, .inl (k_rest, 4, .inr (.inl x_rest))), (q_shares, .inl (k_shares, 4, .inr (.inl x_shares))), (q_p0, .inr (2, [.ref q_p0_cells, .ref q_p0_beginnings, .int x_p0_height, .int x_p0_width, .int x_p0_imageHeight])), (q_p0_cells, .inl (k_p0_cells, 32, .inr (.inl x_p0_cells)))] ∧ zz_X sa (va_A [(q_this, .inr (1, [.ref q_rest, .ref q_shares, .int x_known])), (q_rest, .inl (k_rest, 4, .inr (.inl x_rest))), (q_shares, .inl (k_shares, 4, .inr (.inl x_shares))), (q_p0, .inr (2, [.ref q_p0_cells, .ref q_p0_beginnings, .int x_p0_height, .int x_p0_width, .int x_p0_imageHeight])), (q_p0_cells, .inl (k_p0_cells, 32, .inr (.inl x_p0_cells)))] sz) U)) (qz_PW_find dC dI q_this q_rest q_shares q_p0 q_p0_cells q_p0_beginnings k_rest k_shares k_p0_cells x_p0_height x_p0_width x_p0_imageHeight x_p0_cells post (va_A [(q_this, .inr (1, [.ref q_rest, .ref q_shares, .int x_known])), (q_rest, .inl (k_rest, 4, .inr (.inl x_rest))), (q_shares, .inl (k_shares, 4, .inr (.inl x_shares))), (q_p0, .inr (2, [.ref q_p0_cells, .ref q_p0_beginnings, .int x_p0_height, .int x_p0_width, .int x_p0_imageHeight])), (q_p0_cells, .inl (k_p0_cells, 32, .inr (.inl x_p0_cells)))] sz)) 0 0 (va_A [(q_this, .inr (1, [.ref q_rest, .ref q_shares, .int x_known])), (q_rest, .inl (k_rest, 4, .inr (.inl x_rest))), (q_shares, .inl (k_shares, 4, .inr (.inl x_shares))), (q_p0, .inr (2, [.ref q_p0_cells, .ref q_p0_beginnings, .int x_p0_height, .int x_p0_width, .int x_p0_imageHeight])), (q_p0_cells, .inl (k_p0_cells, 32, .inr (.inl x_p0_cells)))] sz) := by
  refine Met.ofW (cc := b_PW_find) (maxL := 10) (ret := (some .long)) (by decide) rfl ?_
  intro p e s m args below meth c s₁ B hml hv
  obtain ⟨rfl, hsz, hP, hK, hD0, hX⟩ := hv
  have hx := B.exec
  have hb := B.bytes
  have hr := B.returns
  have hts0 := atoms_spec (ws := (zz_w y_PW_find b_PW_find 10 (some .long))) B.pre
  have hts : ∀ w ∈ zz_GW, w.before _ s = true := fun w h => hts0 w (List.mem_cons_of_mem _ h)
  clear hts0
  have hown : s.vm.findClass "StructureRows$Power" = some m.cls := findClass_of_methodNamed B.named
  have hlocks := B.notSynchronized
  have C0 : cx_PW_find p s m _ meth c := ⟨hx, hb, hr, hml, hown, hts, hlocks⟩
  subst hsz
  have hD := hD0.self (sz := s.heap.size)
  generalize hAe : va_A [(q_this, .inr (1, [.ref q_rest, .ref q_shares, .int x_known])), (q_rest, .inl (k_rest, 4, .inr (.inl x_rest))), (q_shares, .inl (k_shares, 4, .inr (.inl x_shares))), (q_p0, .inr (2, [.ref q_p0_cells, .ref q_p0_beginnings, .int x_p0_height, .int x_p0_width, .int x_p0_imageHeight])), (q_p0_cells, .inl (k_p0_cells, 32, .inr (.inl x_p0_cells)))] s.heap.size = A at hD hX ⊢
  have hA : ∀ q : Nat, s.heap.size ≤ q → A q := fun q h => by rw [← hAe]; exact Or.inr h
  clear hAe hD0
  have hS : va_S A s.heap s.heap [] := va_S.rf
  have hl := lv_entry ([.ref q_this, .ref q_p0]) (n := 10) (Nat.le_of_ble_eq_true rfl)
  rw [lg_entry_eq]
  generalize (lg_sl ([.ref q_this, .ref q_p0]) ++ List.replicate (10 - (lg_sl ([.ref q_this, .ref q_p0])).length) Slot.unset).toArray = ls at hl ⊢
  replace hl : lv_has ls 10 [(0, .ref q_this), (1, .ref q_p0)] := hl
  unfold wp_PW_find at hw
  change W p l e rm_PW_find s m _ below meth c s.heap [] 0 0 _ _
  refine lv_lconst (v := 1) hx hb d_PW_find_0 (by decide) ?_
  refine lv_lstore_n (lv' := [(2, .long 1), (0, .ref q_this), (1, .ref q_p0)]) hx hb d_PW_find_1 rfl hl (by decide) rfl (fun ls hl => ?_)
  refine lv_iconst (v := 0) hx hb d_PW_find_2 (by decide) ?_
  refine lv_istore (lv' := [(4, .int 0), (2, .long 1), (0, .ref q_this), (1, .ref q_p0)]) hx hb d_PW_find_3 hl (by decide) rfl (fun ls hl => ?_)
  refine lv_iconst (v := 0) hx hb d_PW_find_5 (by decide) ?_
  refine lv_istore (lv' := [(5, .int 0), (4, .int 0), (2, .long 1), (0, .ref q_this), (1, .ref q_p0)]) hx hb d_PW_find_6 hl (by decide) rfl (fun ls hl => ?_)
  exact k_PW_find_8 C0 hX hA hK hw hP hD hS (lv_sub hl [3, 4, 2, 1, 0] rfl)
set_option maxHeartbeats 4000000 in
set_option maxRecDepth 100000 in
theorem go_PW_find {p : Program} {l : Launch} {e : Env} {R : Room} {s : State} {m : MethodId} {args : Array Value} {below : List Frame} {meth : Method} {c : Code} {H : Heap} {locs : List Loc} {cells slots : Nat} {Q : State → Prop} {cc : ByteArray} {nL : Nat} {Ts : List Cond} {own : String} {index : Nat} {A0 : Nat → Prop} {dC : Nat → ClassId} {dI : Nat → Nat → Nat} {ws wr : va_W} {tys : List (ClassId × FieldType)} {q_this q_rest q_shares q_p0 q_p0_cells q_p0_beginnings : Nat} {k_rest k_shares k_p0_cells : ClassId} {sa : Nat → Nat} {x_known : Int32} {x_rest : Nat → Int64} {x_shares : Nat → Int64} {x_p0_height : Int32} {x_p0_width : Int32} {x_p0_imageHeight : Int32} {x_p0_cells : Nat → Int64}  {post : Int64 → Int32 → (Nat → Int64) → (Nat → Int64) → Prop} (S : CallFix p m c cc nL s args Ts own) (cw : CallW R s args own "StructureRows$Power" index y_PW_find b_PW_find 10 (some .long) (zz_w y_PW_find b_PW_find 10 (some .long)) rm_PW_find 0 0 1) (hK : va_K (dC, dI) zz_cl tys s) (hP : va_P (dC, dI) zz_cl ws H) (hD : va_D A0 ws) (hS : va_S A0 s.heap H locs) (hA : ∀ q, s.heap.size ≤ q → A0 q) (isC isR kt : List Nat) (h1 : isC.filterMap (fun i => ws[i]?) = [(q_this, .inr (1, [.ref q_rest, .ref q_shares, .int x_known])), (q_rest, .inl (k_rest, 4, .inr (.inl x_rest))), (q_shares, .inl (k_shares, 4, .inr (.inl x_shares))), (q_p0, .inr (2, [.ref q_p0_cells, .ref q_p0_beginnings, .int x_p0_height, .int x_p0_width, .int x_p0_imageHeight])), (q_p0_cells, .inl (k_p0_cells, 32, .inr (.inl x_p0_cells)))]) (h2 : isC.map (fun i => ws[i]?) = ([(q_this, .inr (1, [.ref q_rest, .ref q_shares, .int x_known])), (q_rest, .inl (k_rest, 4, .inr (.inl x_rest))), (q_shares, .inl (k_shares, 4, .inr (.inl x_shares))), (q_p0, .inr (2, [.ref q_p0_cells, .ref q_p0_beginnings, .int x_p0_height, .int x_p0_width, .int x_p0_imageHeight])), (q_p0_cells, .inl (k_p0_cells, 32, .inr (.inl x_p0_cells)))] : va_W).map some) (h3 : va_nd isC = true) (h4 : isR.map (fun i => ws[i]?) = wr.map some) (h5 : va_nd isR = true) (h6 : ∀ i ∈ isR, i ∉ isC) (h7 : kt.filterMap (fun i => tys[i]?) = [(k_rest, .long), (k_shares, .long), (k_p0_cells, .long)]) (hX : zz_X sa A0 s) (hw : wp_PW_find x_known x_rest x_shares x_p0_height x_p0_width x_p0_imageHeight x_p0_cells post) {pc : Nat} {ls : Array Slot} {rest : List Value} (hsize : ls.size = nL) (hrest : (rest.map fun v => v.category).sum ≤ 8) (hdg : decode cc pc = .ok (.invokevirtual index, 3)) (hf : cells + 0 ≤ R.cells ∧ slots + 0 ≤ R.slots) (kk : ∀ (r : Int64) (m0 : Int32) (m1 : Nat → Int64) (m2 : Nat → Int64) (H1 : Heap) (locs1 : List Loc), post r m0 m1 m2 → va_P (dC, dI) zz_cl (wr ++ [(q_this, .inr (1, [.ref q_rest, .ref q_shares, .int m0])), (q_rest, .inl (k_rest, 4, .inr (.inl m1))), (q_shares, .inl (k_shares, 4, .inr (.inl m2))), (q_p0, .inr (2, [.ref q_p0_cells, .ref q_p0_beginnings, .int x_p0_height, .int x_p0_width, .int x_p0_imageHeight])), (q_p0_cells, .inl (k_p0_cells, 32, .inr (.inl x_p0_cells)))]) H1 → va_D A0 (wr ++ [(q_this, .inr (1, [.ref q_rest, .ref q_shares, .int m0])), (q_rest, .inl (k_rest, 4, .inr (.inl m1))), (q_shares, .inl (k_shares, 4, .inr (.inl m2))), (q_p0, .inr (2, [.ref q_p0_cells, .ref q_p0_beginnings, .int x_p0_height, .int x_p0_width, .int x_p0_imageHeight])), (q_p0_cells, .inl (k_p0_cells, 32, .inr (.inl x_p0_cells)))]) → va_S A0 s.heap H1 locs1 → W p l e R s m args below meth c H1 locs1 (cells + 0) (slots + 0) Q (F0 m (pc + 3) ls (.long r :: rest))) : W p l e R s m args below meth c H locs cells slots Q (F0 m pc ls (.ref q_p0 :: .ref q_this :: rest)) := by
  have hPc := hP.sub (ws' := [(q_this, .inr (1, [.ref q_rest, .ref q_shares, .int x_known])), (q_rest, .inl (k_rest, 4, .inr (.inl x_rest))), (q_shares, .inl (k_shares, 4, .inr (.inl x_shares))), (q_p0, .inr (2, [.ref q_p0_cells, .ref q_p0_beginnings, .int x_p0_height, .int x_p0_width, .int x_p0_imageHeight])), (q_p0_cells, .inl (k_p0_cells, 32, .inr (.inl x_p0_cells)))]) isC h1
  have hDc := hD.sub (ws' := [(q_this, .inr (1, [.ref q_rest, .ref q_shares, .int x_known])), (q_rest, .inl (k_rest, 4, .inr (.inl x_rest))), (q_shares, .inl (k_shares, 4, .inr (.inl x_shares))), (q_p0, .inr (2, [.ref q_p0_cells, .ref q_p0_beginnings, .int x_p0_height, .int x_p0_width, .int x_p0_imageHeight])), (q_p0_cells, .inl (k_p0_cells, 32, .inr (.inl x_p0_cells)))]) isC h3 h2
  have hKc := hK.sub (tys' := [(k_rest, .long), (k_shares, .long), (k_p0_cells, .long)]) kt h7
  have hFc := va_free (wc := [(q_this, .inr (1, [.ref q_rest, .ref q_shares, .int x_known])), (q_rest, .inl (k_rest, 4, .inr (.inl x_rest))), (q_shares, .inl (k_shares, 4, .inr (.inl x_shares))), (q_p0, .inr (2, [.ref q_p0_cells, .ref q_p0_beginnings, .int x_p0_height, .int x_p0_width, .int x_p0_imageHeight])), (q_p0_cells, .inl (k_p0_cells, 32, .inr (.inl x_p0_cells)))]) hD hS hA isC h2
  refine va_calll (va_runV (As := [.ref q_p0]) (rest := rest) S (c_PW_find l sa dC dI q_this q_rest q_shares q_p0 q_p0_cells q_p0_beginnings k_rest k_shares k_p0_cells H.size x_known x_rest x_shares x_p0_height x_p0_width x_p0_imageHeight x_p0_cells post hw) cw ⟨zz_blindX, va_recv hKc hPc (ci := 1) (q0 := 0) rfl rfl, fun U hU hW => ⟨rfl, by rw [hU], by rw [hU]; exact hPc, va_K.moved hW.alike hKc, hDc.weaken (fun _ _ _ _ => trivial), zz_X_to hX hS hFc hU hW⟩⟩ rfl rfl hsize rfl (lv_room hrest) hdg hf) hS (fun q _ h => hFc q h) hFc (fun r u t H1 locs ht hvm hw hB hz1 hk1 hS => ?_)
  obtain ⟨hP1, hK1, hD1⟩ := hB
  rw [ht] at hP1
  obtain ⟨hP2, hD2⟩ := va_join (wr := wr) (w1 := [(q_this, .inr (1, [.ref q_rest, .ref q_shares, .int u.1])), (q_rest, .inl (k_rest, 4, .inr (.inl u.2.1))), (q_shares, .inl (k_shares, 4, .inr (.inl u.2.2))), (q_p0, .inr (2, [.ref q_p0_cells, .ref q_p0_beginnings, .int x_p0_height, .int x_p0_width, .int x_p0_imageHeight])), (q_p0_cells, .inl (k_p0_cells, 32, .inr (.inl x_p0_cells)))]) hP hD isC isR h2 h4 h5 h6 hk1 hFc hP1 hD1
  exact kk r u.1 u.2.1 u.2.2 H1 locs hw hP2 hD2 hS
