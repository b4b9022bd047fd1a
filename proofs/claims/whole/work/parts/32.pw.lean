abbrev rm_PW_isKnown : Room := { frames := 0, cells := 0, slots := 0, locals := 0 }
abbrev qz_PW_isKnown (dC : Nat → ClassId) (dI : Nat → Nat → Nat) (q_this q_rest q_shares : Nat) (x_known : Int32) (post : Int32 → Prop) (A : Nat → Prop) : Array Value → State → Outcome → State → Prop := va_Qi (fun (r : Int32) (_ : Unit) => post r) (fun (u : Unit) (t : State) => va_P (dC, dI) zz_cl [(q_this, .inr (1, [.ref q_rest, .ref q_shares, .int x_known]))] t.heap ∧ va_K (dC, dI) zz_cl [] t ∧ va_D A [(q_this, .inr (1, [.ref q_rest, .ref q_shares, .int x_known]))]) A
def cx_PW_isKnown (p : Program) (s : State) (m : MethodId) (args : Array Value) (meth : Method) (c : Code) : Prop := p.tables.exec = Jvm.exec ∧ c.code = b_PW_isKnown ∧ meth.sig.returnType = (some .boolean) ∧ c.maxLocals = 1 ∧ s.vm.findClass "StructureRows$Power" = some m.cls ∧ (∀ w ∈ zz_GW, w.before args s = true) ∧ meth.locks = false
def wp_PW_isKnown (x_known : Int32)  (post : Int32 → Prop) : Prop := narrow .boolean (.int x_known) = .int x_known ∧ (post x_known)
set_option maxHeartbeats 4000000 in
set_option maxRecDepth 100000 in
theorem c_PW_isKnown (l : Launch) (dC : Nat → ClassId) (dI : Nat → Nat → Nat) (q_this q_rest q_shares : Nat) (sz : Nat) (x_known : Int32)  (post : Int32 → Prop) (hw : wp_PW_isKnown x_known post) : Met l y_PW_isKnown (zz_w y_PW_isKnown b_PW_isKnown 1 (some .boolean)) rm_PW_isKnown (va_Pc [.ref q_this] (fun U => U.heap.size = sz ∧ va_P (dC, dI) zz_cl [(q_this, .inr (1, [.ref q_rest, .ref q_shares, .int x_known]))] U.heap ∧ va_K (dC, dI) zz_cl [] U ∧ va_D (fun _ => True) [(q_this, .inr (1, [.ref q_rest, .ref q_shares, .int x_known]))])) (qz_PW_isKnown dC dI q_this q_rest q_shares x_known post (va_A [(q_this, .inr (1, [.ref q_rest, .ref q_shares, .int x_known]))] sz)) 0 0 (va_A [(q_this, .inr (1, [.ref q_rest, .ref q_shares, .int x_known]))] sz) := by
  refine Met.ofW (cc := b_PW_isKnown) (maxL := 1) (ret := (some .boolean)) (by decide) rfl ?_
  intro p e s m args below meth c s₁ B hml hv
  obtain ⟨rfl, hsz, hP, hK, hD0⟩ := hv
  have hx := B.exec
  have hb := B.bytes
  have hr := B.returns
  have hts0 := atoms_spec (ws := (zz_w y_PW_isKnown b_PW_isKnown 1 (some .boolean))) B.pre
  have hts : ∀ w ∈ zz_GW, w.before _ s = true := fun w h => hts0 w (List.mem_cons_of_mem _ h)
  clear hts0
  have hown : s.vm.findClass "StructureRows$Power" = some m.cls := findClass_of_methodNamed B.named
  have hlocks := B.notSynchronized
  have C0 : cx_PW_isKnown p s m _ meth c := ⟨hx, hb, hr, hml, hown, hts, hlocks⟩
  subst hsz
  have hD := hD0.self (sz := s.heap.size)
  generalize hAe : va_A [(q_this, .inr (1, [.ref q_rest, .ref q_shares, .int x_known]))] s.heap.size = A at hD ⊢
  have hA : ∀ q : Nat, s.heap.size ≤ q → A q := fun q h => by rw [← hAe]; exact Or.inr h
  clear hAe hD0
  have hS : va_S A s.heap s.heap [] := va_S.rf
  have hl := lv_entry ([.ref q_this]) (n := 1) (Nat.le_of_ble_eq_true rfl)
  rw [lg_entry_eq]
  generalize (lg_sl ([.ref q_this]) ++ List.replicate (1 - (lg_sl ([.ref q_this])).length) Slot.unset).toArray = ls at hl ⊢
  replace hl : lv_has ls 1 [(0, .ref q_this)] := hl
  unfold wp_PW_isKnown at hw
  change W p l e rm_PW_isKnown s m _ below meth c s.heap [] 0 0 _ _
  refine lv_aload_n hx hb d_PW_isKnown_0 rfl (lv_at hl 0 rfl) ?_
  refine va_get (D := (dC, dI)) (ci := 1) (v := .int x_known) (C := "StructureRows$Power") (T := T_PW) (N := 3) hx hb hts in_PW hown hK hP 0 rfl rfl 2 (by decide) (hts _ tw_97) (fun _ h9 => h9) rfl d_PW_isKnown_1 ?_
  obtain ⟨h_1, hw⟩ := hw
  exact W.zret (v := x_known) (ty := .boolean) hx hb hr h_1 (fun t ht hW => ⟨⟨x_known, (), rfl, hw, by rw [ht]; exact hP, va_K.moved hW.alike hK, hD⟩, hS.F ht⟩) hS.2.2 d_PW_isKnown_4
set_option maxHeartbeats 4000000 in
set_option maxRecDepth 100000 in
theorem go_PW_isKnown {p : Program} {l : Launch} {e : Env} {R : Room} {s : State} {m : MethodId} {args : Array Value} {below : List Frame} {meth : Method} {c : Code} {H : Heap} {locs : List Loc} {cells slots : Nat} {Q : State → Prop} {cc : ByteArray} {nL : Nat} {Ts : List Cond} {own : String} {index : Nat} {A0 : Nat → Prop} {H0 : Heap} {dC : Nat → ClassId} {dI : Nat → Nat → Nat} {ws wr : va_W} {tys : List (ClassId × FieldType)} {q_this q_rest q_shares : Nat} {x_known : Int32}  {post : Int32 → Prop} (S : CallFix p m c cc nL s args Ts own) (cw : CallW R s args own "StructureRows$Power" index y_PW_isKnown b_PW_isKnown 1 (some .boolean) (zz_w y_PW_isKnown b_PW_isKnown 1 (some .boolean)) rm_PW_isKnown 0 0 0) (hK : va_K (dC, dI) zz_cl tys s) (hP : va_P (dC, dI) zz_cl ws H) (hD : va_D A0 ws) (hS : va_S A0 H0 H locs) (hA : ∀ q, H0.size ≤ q → A0 q) (isC isR kt : List Nat) (h1 : isC.filterMap (fun i => ws[i]?) = [(q_this, .inr (1, [.ref q_rest, .ref q_shares, .int x_known]))]) (h2 : isC.map (fun i => ws[i]?) = ([(q_this, .inr (1, [.ref q_rest, .ref q_shares, .int x_known]))] : va_W).map some) (h3 : va_nd isC = true) (h4 : isR.map (fun i => ws[i]?) = wr.map some) (h5 : va_nd isR = true) (h6 : ∀ i ∈ isR, i ∉ isC) (h7 : kt.filterMap (fun i => tys[i]?) = []) (hw : wp_PW_isKnown x_known post) {pc : Nat} {ls : Array Slot} {rest : List Value} (hsize : ls.size = nL) (hrest : (rest.map fun v => v.category).sum ≤ 8) (hdg : decode cc pc = .ok (.invokevirtual index, 3)) (hf : cells + 0 ≤ R.cells ∧ slots + 0 ≤ R.slots) (kk : ∀ (r : Int32) (H1 : Heap) (locs1 : List Loc), post r → va_P (dC, dI) zz_cl (wr ++ [(q_this, .inr (1, [.ref q_rest, .ref q_shares, .int x_known]))]) H1 → va_D A0 (wr ++ [(q_this, .inr (1, [.ref q_rest, .ref q_shares, .int x_known]))]) → va_S A0 H0 H1 locs1 → W p l e R s m args below meth c H1 locs1 (cells + 0) (slots + 0) Q (F0 m (pc + 3) ls (.int r :: rest))) : W p l e R s m args below meth c H locs cells slots Q (F0 m pc ls (.ref q_this :: rest)) := by
  have hPc := hP.sub (ws' := [(q_this, .inr (1, [.ref q_rest, .ref q_shares, .int x_known]))]) isC h1
  have hDc := hD.sub (ws' := [(q_this, .inr (1, [.ref q_rest, .ref q_shares, .int x_known]))]) isC h3 h2
  have hKc := hK.sub (tys' := []) kt h7
  have hFc := va_free (wc := [(q_this, .inr (1, [.ref q_rest, .ref q_shares, .int x_known]))]) hD hS hA isC h2
  refine va_calli (va_runV (As := []) (rest := rest) S (c_PW_isKnown l dC dI q_this q_rest q_shares H.size x_known post hw) cw ⟨zz_blind, va_recv hKc hPc (ci := 1) (q0 := 0) rfl rfl, fun U hU hW => ⟨rfl, by rw [hU], by rw [hU]; exact hPc, va_K.moved hW.alike hKc, hDc.weaken (fun _ _ _ _ => trivial)⟩⟩ rfl rfl hsize rfl (lv_room hrest) hdg hf) hS (fun q _ h => hFc q h) hFc (fun r u t H1 locs ht hvm hw hB hz1 hk1 hS => ?_)
  obtain ⟨hP1, hK1, hD1⟩ := hB
  rw [ht] at hP1
  obtain ⟨hP2, hD2⟩ := va_join (wr := wr) (w1 := [(q_this, .inr (1, [.ref q_rest, .ref q_shares, .int x_known]))]) hP hD isC isR h2 h4 h5 h6 hk1 hFc hP1 hD1
  exact kk r H1 locs hw hP2 hD2 hS
abbrev rm_PW_share : Room := { frames := 0, cells := 0, slots := 0, locals := 0 }
abbrev qz_PW_share (dC : Nat → ClassId) (dI : Nat → Nat → Nat) (q_this q_rest q_shares : Nat) (k_shares : ClassId) (x_known : Int32) (x_shares : Nat → Int64) (post : Int64 → Prop) (A : Nat → Prop) : Array Value → State → Outcome → State → Prop := va_Ql (fun (r : Int64) (_ : Unit) => post r) (fun (u : Unit) (t : State) => va_P (dC, dI) zz_cl [(q_this, .inr (1, [.ref q_rest, .ref q_shares, .int x_known])), (q_shares, .inl (k_shares, 4, .inr (.inl x_shares)))] t.heap ∧ va_K (dC, dI) zz_cl [(k_shares, .long)] t ∧ va_D A [(q_this, .inr (1, [.ref q_rest, .ref q_shares, .int x_known])), (q_shares, .inl (k_shares, 4, .inr (.inl x_shares)))]) A
def cx_PW_share (p : Program) (s : State) (m : MethodId) (args : Array Value) (meth : Method) (c : Code) : Prop := p.tables.exec = Jvm.exec ∧ c.code = b_PW_share ∧ meth.sig.returnType = (some .long) ∧ c.maxLocals = 2 ∧ s.vm.findClass "StructureRows$Power" = some m.cls ∧ (∀ w ∈ zz_GW, w.before args s = true) ∧ meth.locks = false
def wp_PW_share (x_known : Int32) (x_shares : Nat → Int64) (a_0 : Int32) (post : Int64 → Prop) : Prop := vp_in a_0 4 ∧ (post (x_shares a_0.toNatClampNeg))
set_option maxHeartbeats 4000000 in
set_option maxRecDepth 100000 in
theorem c_PW_share (l : Launch) (dC : Nat → ClassId) (dI : Nat → Nat → Nat) (q_this q_rest q_shares : Nat) (k_shares : ClassId) (sz : Nat) (x_known : Int32) (x_shares : Nat → Int64) (a_0 : Int32) (post : Int64 → Prop) (hw : wp_PW_share x_known x_shares a_0 post) : Met l y_PW_share (zz_w y_PW_share b_PW_share 2 (some .long)) rm_PW_share (va_Pc [.ref q_this, .int a_0] (fun U => U.heap.size = sz ∧ va_P (dC, dI) zz_cl [(q_this, .inr (1, [.ref q_rest, .ref q_shares, .int x_known])), (q_shares, .inl (k_shares, 4, .inr (.inl x_shares)))] U.heap ∧ va_K (dC, dI) zz_cl [(k_shares, .long)] U ∧ va_D (fun _ => True) [(q_this, .inr (1, [.ref q_rest, .ref q_shares, .int x_known])), (q_shares, .inl (k_shares, 4, .inr (.inl x_shares)))])) (qz_PW_share dC dI q_this q_rest q_shares k_shares x_known x_shares post (va_A [(q_this, .inr (1, [.ref q_rest, .ref q_shares, .int x_known])), (q_shares, .inl (k_shares, 4, .inr (.inl x_shares)))] sz)) 0 0 (va_A [(q_this, .inr (1, [.ref q_rest, .ref q_shares, .int x_known])), (q_shares, .inl (k_shares, 4, .inr (.inl x_shares)))] sz) := by
  refine Met.ofW (cc := b_PW_share) (maxL := 2) (ret := (some .long)) (by decide) rfl ?_
  intro p e s m args below meth c s₁ B hml hv
  obtain ⟨rfl, hsz, hP, hK, hD0⟩ := hv
  have hx := B.exec
  have hb := B.bytes
  have hr := B.returns
  have hts0 := atoms_spec (ws := (zz_w y_PW_share b_PW_share 2 (some .long))) B.pre
  have hts : ∀ w ∈ zz_GW, w.before _ s = true := fun w h => hts0 w (List.mem_cons_of_mem _ h)
  clear hts0
  have hown : s.vm.findClass "StructureRows$Power" = some m.cls := findClass_of_methodNamed B.named
  have hlocks := B.notSynchronized
  have C0 : cx_PW_share p s m _ meth c := ⟨hx, hb, hr, hml, hown, hts, hlocks⟩
  subst hsz
  have hD := hD0.self (sz := s.heap.size)
  generalize hAe : va_A [(q_this, .inr (1, [.ref q_rest, .ref q_shares, .int x_known])), (q_shares, .inl (k_shares, 4, .inr (.inl x_shares)))] s.heap.size = A at hD ⊢
  have hA : ∀ q : Nat, s.heap.size ≤ q → A q := fun q h => by rw [← hAe]; exact Or.inr h
  clear hAe hD0
  have hS : va_S A s.heap s.heap [] := va_S.rf
  have hl := lv_entry ([.ref q_this, .int a_0]) (n := 2) (Nat.le_of_ble_eq_true rfl)
  rw [lg_entry_eq]
  generalize (lg_sl ([.ref q_this, .int a_0]) ++ List.replicate (2 - (lg_sl ([.ref q_this, .int a_0])).length) Slot.unset).toArray = ls at hl ⊢
  replace hl : lv_has ls 2 [(0, .ref q_this), (1, .int a_0)] := hl
  unfold wp_PW_share at hw
  change W p l e rm_PW_share s m _ below meth c s.heap [] 0 0 _ _
  refine lv_aload_n hx hb d_PW_share_0 rfl (lv_at hl 0 rfl) ?_
  refine va_get (D := (dC, dI)) (ci := 1) (v := .ref q_shares) (C := "StructureRows$Power") (T := T_PW) (N := 3) hx hb hts in_PW hown hK hP 0 rfl rfl 1 (by decide) (hts _ tw_96) (fun _ h9 => h9) rfl d_PW_share_1 ?_
  refine lv_iload_n hx hb d_PW_share_4 rfl (lv_at hl 1 rfl) ?_
  obtain ⟨h_1, hw⟩ := hw
  refine va_lald hx hb hK hP 1 0 rfl rfl h_1 d_PW_share_5 ?_
  exact W.lret (v := x_shares a_0.toNatClampNeg) hx hb hr (fun t ht hW => ⟨⟨x_shares a_0.toNatClampNeg, (), rfl, hw, by rw [ht]; exact hP, va_K.moved hW.alike hK, hD⟩, hS.F ht⟩) hS.2.2 d_PW_share_6
set_option maxHeartbeats 4000000 in
set_option maxRecDepth 100000 in
theorem go_PW_share {p : Program} {l : Launch} {e : Env} {R : Room} {s : State} {m : MethodId} {args : Array Value} {below : List Frame} {meth : Method} {c : Code} {H : Heap} {locs : List Loc} {cells slots : Nat} {Q : State → Prop} {cc : ByteArray} {nL : Nat} {Ts : List Cond} {own : String} {index : Nat} {A0 : Nat → Prop} {H0 : Heap} {dC : Nat → ClassId} {dI : Nat → Nat → Nat} {ws wr : va_W} {tys : List (ClassId × FieldType)} {q_this q_rest q_shares : Nat} {k_shares : ClassId} {x_known : Int32} {x_shares : Nat → Int64} {a_0 : Int32} {post : Int64 → Prop} (S : CallFix p m c cc nL s args Ts own) (cw : CallW R s args own "StructureRows$Power" index y_PW_share b_PW_share 2 (some .long) (zz_w y_PW_share b_PW_share 2 (some .long)) rm_PW_share 0 0 1) (hK : va_K (dC, dI) zz_cl tys s) (hP : va_P (dC, dI) zz_cl ws H) (hD : va_D A0 ws) (hS : va_S A0 H0 H locs) (hA : ∀ q, H0.size ≤ q → A0 q) (isC isR kt : List Nat) (h1 : isC.filterMap (fun i => ws[i]?) = [(q_this, .inr (1, [.ref q_rest, .ref q_shares, .int x_known])), (q_shares, .inl (k_shares, 4, .inr (.inl x_shares)))]) (h2 : isC.map (fun i => ws[i]?) = ([(q_this, .inr (1, [.ref q_rest, .ref q_shares, .int x_known])), (q_shares, .inl (k_shares, 4, .inr (.inl x_shares)))] : va_W).map some) (h3 : va_nd isC = true) (h4 : isR.map (fun i => ws[i]?) = wr.map some) (h5 : va_nd isR = true) (h6 : ∀ i ∈ isR, i ∉ isC) (h7 : kt.filterMap (fun i => tys[i]?) = [(k_shares, .long)]) (hw : wp_PW_share x_known x_shares a_0 post) {pc : Nat} {ls : Array Slot} {rest : List Value} (hsize : ls.size = nL) (hrest : (rest.map fun v => v.category).sum ≤ 8) (hdg : decode cc pc = .ok (.invokevirtual index, 3)) (hf : cells + 0 ≤ R.cells ∧ slots + 0 ≤ R.slots) (kk : ∀ (r : Int64) (H1 : Heap) (locs1 : List Loc), post r → va_P (dC, dI) zz_cl (wr ++ [(q_this, .inr (1, [.ref q_rest, .ref q_shares, .int x_known])), (q_shares, .inl (k_shares, 4, .inr (.inl x_shares)))]) H1 → va_D A0 (wr ++ [(q_this, .inr (1, [.ref q_rest, .ref q_shares, .int x_known])), (q_shares, .inl (k_shares, 4, .inr (.inl x_shares)))]) → va_S A0 H0 H1 locs1 → W p l e R s m args below meth c H1 locs1 (cells + 0) (slots + 0) Q (F0 m (pc + 3) ls (.long r :: rest))) : W p l e R s m args below meth c H locs cells slots Q (F0 m pc ls (.int a_0 :: .ref q_this :: rest)) := by
  have hPc := hP.sub (ws' := [(q_this, .inr (1, [.ref q_rest, .ref q_shares, .int x_known])), (q_shares, .inl (k_shares, 4, .inr (.inl x_shares)))]) isC h1
  have hDc := hD.sub (ws' := [(q_this, .inr (1, [.ref q_rest, .ref q_shares, .int x_known])), (q_shares, .inl (k_shares, 4, .inr (.inl x_shares)))]) isC h3 h2
  have hKc := hK.sub (tys' := [(k_shares, .long)]) kt h7
  have hFc := va_free (wc := [(q_this, .inr (1, [.ref q_rest, .ref q_shares, .int x_known])), (q_shares, .inl (k_shares, 4, .inr (.inl x_shares)))]) hD hS hA isC h2
  refine va_calll (va_runV (As := [.int a_0]) (rest := rest) S (c_PW_share l dC dI q_this q_rest q_shares k_shares H.size x_known x_shares a_0 post hw) cw ⟨zz_blind, va_recv hKc hPc (ci := 1) (q0 := 0) rfl rfl, fun U hU hW => ⟨rfl, by rw [hU], by rw [hU]; exact hPc, va_K.moved hW.alike hKc, hDc.weaken (fun _ _ _ _ => trivial)⟩⟩ rfl rfl hsize rfl (lv_room hrest) hdg hf) hS (fun q _ h => hFc q h) hFc (fun r u t H1 locs ht hvm hw hB hz1 hk1 hS => ?_)
  obtain ⟨hP1, hK1, hD1⟩ := hB
  rw [ht] at hP1
  obtain ⟨hP2, hD2⟩ := va_join (wr := wr) (w1 := [(q_this, .inr (1, [.ref q_rest, .ref q_shares, .int x_known])), (q_shares, .inl (k_shares, 4, .inr (.inl x_shares)))]) hP hD isC isR h2 h4 h5 h6 hk1 hFc hP1 hD1
  exact kk r H1 locs hw hP2 hD2 hS
abbrev rm_PW_forget : Room := { frames := 0, cells := 0, slots := 0, locals := 0 }
abbrev qz_PW_forget (dC : Nat → ClassId) (dI : Nat → Nat → Nat) (q_this q_rest q_shares : Nat)  (post : Int32 → Prop) (A : Nat → Prop) : Array Value → State → Outcome → State → Prop := va_Qv (fun (u : Int32) => post u) (fun (u : Int32) (t : State) => va_P (dC, dI) zz_cl [(q_this, .inr (1, [.ref q_rest, .ref q_shares, .int u]))] t.heap ∧ va_K (dC, dI) zz_cl [] t ∧ va_D A [(q_this, .inr (1, [.ref q_rest, .ref q_shares, .int u]))]) A
def cx_PW_forget (p : Program) (s : State) (m : MethodId) (args : Array Value) (meth : Method) (c : Code) : Prop := p.tables.exec = Jvm.exec ∧ c.code = b_PW_forget ∧ meth.sig.returnType = none ∧ c.maxLocals = 1 ∧ s.vm.findClass "StructureRows$Power" = some m.cls ∧ (∀ w ∈ zz_GW, w.before args s = true) ∧ meth.locks = false
def wp_PW_forget (x_known : Int32)  (post : Int32 → Prop) : Prop := post 0
set_option maxHeartbeats 4000000 in
set_option maxRecDepth 100000 in
theorem c_PW_forget (l : Launch) (dC : Nat → ClassId) (dI : Nat → Nat → Nat) (q_this q_rest q_shares : Nat) (sz : Nat) (x_known : Int32)  (post : Int32 → Prop) (hw : wp_PW_forget x_known post) : Met l y_PW_forget (zz_w y_PW_forget b_PW_forget 1 none) rm_PW_forget (va_Pc [.ref q_this] (fun U => U.heap.size = sz ∧ va_P (dC, dI) zz_cl [(q_this, .inr (1, [.ref q_rest, .ref q_shares, .int x_known]))] U.heap ∧ va_K (dC, dI) zz_cl [] U ∧ va_D (fun _ => True) [(q_this, .inr (1, [.ref q_rest, .ref q_shares, .int x_known]))])) (qz_PW_forget dC dI q_this q_rest q_shares post (va_A [(q_this, .inr (1, [.ref q_rest, .ref q_shares, .int x_known]))] sz)) 0 0 (va_A [(q_this, .inr (1, [.ref q_rest, .ref q_shares, .int x_known]))] sz) := by
  refine Met.ofW (cc := b_PW_forget) (maxL := 1) (ret := none) (by decide) rfl ?_
  intro p e s m args below meth c s₁ B hml hv
  obtain ⟨rfl, hsz, hP, hK, hD0⟩ := hv
  have hx := B.exec
  have hb := B.bytes
  have hr := B.returns
  have hts0 := atoms_spec (ws := (zz_w y_PW_forget b_PW_forget 1 none)) B.pre
  have hts : ∀ w ∈ zz_GW, w.before _ s = true := fun w h => hts0 w (List.mem_cons_of_mem _ h)
  clear hts0
  have hown : s.vm.findClass "StructureRows$Power" = some m.cls := findClass_of_methodNamed B.named
  have hlocks := B.notSynchronized
  have C0 : cx_PW_forget p s m _ meth c := ⟨hx, hb, hr, hml, hown, hts, hlocks⟩
  subst hsz
  have hD := hD0.self (sz := s.heap.size)
  generalize hAe : va_A [(q_this, .inr (1, [.ref q_rest, .ref q_shares, .int x_known]))] s.heap.size = A at hD ⊢
  have hA : ∀ q : Nat, s.heap.size ≤ q → A q := fun q h => by rw [← hAe]; exact Or.inr h
  clear hAe hD0
  have hS : va_S A s.heap s.heap [] := va_S.rf
  have hl := lv_entry ([.ref q_this]) (n := 1) (Nat.le_of_ble_eq_true rfl)
  rw [lg_entry_eq]
  generalize (lg_sl ([.ref q_this]) ++ List.replicate (1 - (lg_sl ([.ref q_this])).length) Slot.unset).toArray = ls at hl ⊢
  replace hl : lv_has ls 1 [(0, .ref q_this)] := hl
  unfold wp_PW_forget at hw
  change W p l e rm_PW_forget s m _ below meth c s.heap [] 0 0 _ _
  refine lv_aload_n hx hb d_PW_forget_0 rfl (lv_at hl 0 rfl) ?_
  refine lv_iconst (v := 0) hx hb d_PW_forget_1 (by decide) ?_
  refine va_put (D := (dC, dI)) (ci := 1) (v := .int 0) (ty := .boolean) (C := "StructureRows$Power") (T := T_PW) (N := 3) hx hb hts in_PW ty_PW tyok_PW nm_PW hown hK hP hD hS 0 rfl rfl 2 (by decide) (hts _ tw_97) (fun _ h9 => h9) rfl (by decide +kernel) rfl rfl (Nat.le_of_ble_eq_true rfl) d_PW_forget_2 (fun H locs hP hD hS => ?_)
  replace hP : va_P (dC, dI) zz_cl [(q_this, .inr (1, [.ref q_rest, .ref q_shares, .int 0]))] H := hP
  replace hD : va_D A [(q_this, .inr (1, [.ref q_rest, .ref q_shares, .int 0]))] := hD
  exact W.vret hx hb hr (fun t ht hW => ⟨⟨0, rfl, hw, by rw [ht]; exact hP, va_K.moved hW.alike hK, hD⟩, hS.F ht⟩) hS.2.2 d_PW_forget_5
set_option maxHeartbeats 4000000 in
set_option maxRecDepth 100000 in
theorem go_PW_forget {p : Program} {l : Launch} {e : Env} {R : Room} {s : State} {m : MethodId} {args : Array Value} {below : List Frame} {meth : Method} {c : Code} {H : Heap} {locs : List Loc} {cells slots : Nat} {Q : State → Prop} {cc : ByteArray} {nL : Nat} {Ts : List Cond} {own : String} {index : Nat} {A0 : Nat → Prop} {H0 : Heap} {dC : Nat → ClassId} {dI : Nat → Nat → Nat} {ws wr : va_W} {tys : List (ClassId × FieldType)} {q_this q_rest q_shares : Nat} {x_known : Int32}  {post : Int32 → Prop} (S : CallFix p m c cc nL s args Ts own) (cw : CallW R s args own "StructureRows$Power" index y_PW_forget b_PW_forget 1 none (zz_w y_PW_forget b_PW_forget 1 none) rm_PW_forget 0 0 0) (hK : va_K (dC, dI) zz_cl tys s) (hP : va_P (dC, dI) zz_cl ws H) (hD : va_D A0 ws) (hS : va_S A0 H0 H locs) (hA : ∀ q, H0.size ≤ q → A0 q) (isC isR kt : List Nat) (h1 : isC.filterMap (fun i => ws[i]?) = [(q_this, .inr (1, [.ref q_rest, .ref q_shares, .int x_known]))]) (h2 : isC.map (fun i => ws[i]?) = ([(q_this, .inr (1, [.ref q_rest, .ref q_shares, .int x_known]))] : va_W).map some) (h3 : va_nd isC = true) (h4 : isR.map (fun i => ws[i]?) = wr.map some) (h5 : va_nd isR = true) (h6 : ∀ i ∈ isR, i ∉ isC) (h7 : kt.filterMap (fun i => tys[i]?) = []) (hw : wp_PW_forget x_known post) {pc : Nat} {ls : Array Slot} {rest : List Value} (hsize : ls.size = nL) (hrest : (rest.map fun v => v.category).sum ≤ 8) (hdg : decode cc pc = .ok (.invokevirtual index, 3)) (hf : cells + 0 ≤ R.cells ∧ slots + 0 ≤ R.slots) (kk : ∀ (m0 : Int32) (H1 : Heap) (locs1 : List Loc), post m0 → va_P (dC, dI) zz_cl (wr ++ [(q_this, .inr (1, [.ref q_rest, .ref q_shares, .int m0]))]) H1 → va_D A0 (wr ++ [(q_this, .inr (1, [.ref q_rest, .ref q_shares, .int m0]))]) → va_S A0 H0 H1 locs1 → W p l e R s m args below meth c H1 locs1 (cells + 0) (slots + 0) Q (F0 m (pc + 3) ls rest)) : W p l e R s m args below meth c H locs cells slots Q (F0 m pc ls (.ref q_this :: rest)) := by
  have hPc := hP.sub (ws' := [(q_this, .inr (1, [.ref q_rest, .ref q_shares, .int x_known]))]) isC h1
  have hDc := hD.sub (ws' := [(q_this, .inr (1, [.ref q_rest, .ref q_shares, .int x_known]))]) isC h3 h2
  have hKc := hK.sub (tys' := []) kt h7
  have hFc := va_free (wc := [(q_this, .inr (1, [.ref q_rest, .ref q_shares, .int x_known]))]) hD hS hA isC h2
  refine va_callv (va_runV (As := []) (rest := rest) S (c_PW_forget l dC dI q_this q_rest q_shares H.size x_known post hw) cw ⟨zz_blind, va_recv hKc hPc (ci := 1) (q0 := 0) rfl rfl, fun U hU hW => ⟨rfl, by rw [hU], by rw [hU]; exact hPc, va_K.moved hW.alike hKc, hDc.weaken (fun _ _ _ _ => trivial)⟩⟩ rfl rfl hsize rfl (lv_room hrest) hdg hf) hS (fun q _ h => hFc q h) hFc (fun u t H1 locs ht hvm hw hB hz1 hk1 hS => ?_)
  obtain ⟨hP1, hK1, hD1⟩ := hB
  rw [ht] at hP1
  obtain ⟨hP2, hD2⟩ := va_join (wr := wr) (w1 := [(q_this, .inr (1, [.ref q_rest, .ref q_shares, .int u]))]) hP hD isC isR h2 h4 h5 h6 hk1 hFc hP1 hD1
  exact kk u H1 locs hw hP2 hD2 hS
abbrev rm_PW_start : Room := { frames := 0, cells := 0, slots := 0, locals := 0 }
abbrev qz_PW_start (dC : Nat → ClassId) (dI : Nat → Nat → Nat) (q_this q_rest q_shares : Nat) (k_rest : ClassId) (x_known : Int32) (post : (Nat → Int64) → Prop) (A : Nat → Prop) : Array Value → State → Outcome → State → Prop := va_Qv (fun (u : (Nat → Int64)) => post u) (fun (u : (Nat → Int64)) (t : State) => va_P (dC, dI) zz_cl [(q_this, .inr (1, [.ref q_rest, .ref q_shares, .int x_known])), (q_rest, .inl (k_rest, 4, .inr (.inl u)))] t.heap ∧ va_K (dC, dI) zz_cl [(k_rest, .long)] t ∧ va_D A [(q_this, .inr (1, [.ref q_rest, .ref q_shares, .int x_known])), (q_rest, .inl (k_rest, 4, .inr (.inl u)))]) A
def cx_PW_start (p : Program) (s : State) (m : MethodId) (args : Array Value) (meth : Method) (c : Code) : Prop := p.tables.exec = Jvm.exec ∧ c.code = b_PW_start ∧ meth.sig.returnType = none ∧ c.maxLocals = 5 ∧ s.vm.findClass "StructureRows$Power" = some m.cls ∧ (∀ w ∈ zz_GW, w.before args s = true) ∧ meth.locks = false
def wp_PW_start (x_known : Int32) (x_rest : Nat → Int64) (a_0 : Int32) (a_1 : Int32) (a_2 : Int32) (a_3 : Int32) (post : (Nat → Int64) → Prop) : Prop := vp_in (0 : Int32) 4 ∧ ∀ w_2 : Nat → Int64, w_2 = vp_updL x_rest (0 : Int32).toNatClampNeg a_0.toInt64 → (vp_in (1 : Int32) 4 ∧ ∀ w_4 : Nat → Int64, w_4 = vp_updL w_2 (1 : Int32).toNatClampNeg a_1.toInt64 → (vp_in (2 : Int32) 4 ∧ ∀ w_6 : Nat → Int64, w_6 = vp_updL w_4 (2 : Int32).toNatClampNeg a_2.toInt64 → (vp_in (3 : Int32) 4 ∧ ∀ w_8 : Nat → Int64, w_8 = vp_updL w_6 (3 : Int32).toNatClampNeg a_3.toInt64 → (post w_8))))
set_option maxHeartbeats 4000000 in
set_option maxRecDepth 100000 in
theorem c_PW_start (l : Launch) (dC : Nat → ClassId) (dI : Nat → Nat → Nat) (q_this q_rest q_shares : Nat) (k_rest : ClassId) (sz : Nat) (x_known : Int32) (x_rest : Nat → Int64) (a_0 : Int32) (a_1 : Int32) (a_2 : Int32) (a_3 : Int32) (post : (Nat → Int64) → Prop) (hw : wp_PW_start x_known x_rest a_0 a_1 a_2 a_3 post) : Met l y_PW_start (zz_w y_PW_start b_PW_start 5 none) rm_PW_start (va_Pc [.ref q_this, .int a_0, .int a_1, .int a_2, .int a_3] (fun U => U.heap.size = sz ∧ va_P (dC, dI) zz_cl [(q_this, .inr (1, [.ref q_rest, .ref q_shares, .int x_known])), (q_rest, .inl (k_rest, 4, .inr (.inl x_rest)))] U.heap ∧ va_K (dC, dI) zz_cl [(k_rest, .long)] U ∧ va_D (fun _ => True) [(q_this, .inr (1, [.ref q_rest, .ref q_shares, .int x_known])), (q_rest, .inl (k_rest, 4, .inr (.inl x_rest)))])) (qz_PW_start dC dI q_this q_rest q_shares k_rest x_known post (va_A [(q_this, .inr (1, [.ref q_rest, .ref q_shares, .int x_known])), (q_rest, .inl (k_rest, 4, .inr (.inl x_rest)))] sz)) 0 0 (va_A [(q_this, .inr (1, [.ref q_rest, .ref q_shares, .int x_known])), (q_rest, .inl (k_rest, 4, .inr (.inl x_rest)))] sz) := by
  refine Met.ofW (cc := b_PW_start) (maxL := 5) (ret := none) (by decide) rfl ?_
  intro p e s m args below meth c s₁ B hml hv
  obtain ⟨rfl, hsz, hP, hK, hD0⟩ := hv
  have hx := B.exec
  have hb := B.bytes
  have hr := B.returns
  have hts0 := atoms_spec (ws := (zz_w y_PW_start b_PW_start 5 none)) B.pre
  have hts : ∀ w ∈ zz_GW, w.before _ s = true := fun w h => hts0 w (List.mem_cons_of_mem _ h)
  clear hts0
  have hown : s.vm.findClass "StructureRows$Power" = some m.cls := findClass_of_methodNamed B.named
  have hlocks := B.notSynchronized
  have C0 : cx_PW_start p s m _ meth c := ⟨hx, hb, hr, hml, hown, hts, hlocks⟩
  subst hsz
  have hD := hD0.self (sz := s.heap.size)
  generalize hAe : va_A [(q_this, .inr (1, [.ref q_rest, .ref q_shares, .int x_known])), (q_rest, .inl (k_rest, 4, .inr (.inl x_rest)))] s.heap.size = A at hD ⊢
  have hA : ∀ q : Nat, s.heap.size ≤ q → A q := fun q h => by rw [← hAe]; exact Or.inr h
  clear hAe hD0
  have hS : va_S A s.heap s.heap [] := va_S.rf
  have hl := lv_entry ([.ref q_this, .int a_0, .int a_1, .int a_2, .int a_3]) (n := 5) (Nat.le_of_ble_eq_true rfl)
  rw [lg_entry_eq]
  generalize (lg_sl ([.ref q_this, .int a_0, .int a_1, .int a_2, .int a_3]) ++ List.replicate (5 - (lg_sl ([.ref q_this, .int a_0, .int a_1, .int a_2, .int a_3])).length) Slot.unset).toArray = ls at hl ⊢
  replace hl : lv_has ls 5 [(0, .ref q_this), (1, .int a_0), (2, .int a_1), (3, .int a_2), (4, .int a_3)] := hl
  unfold wp_PW_start at hw
  change W p l e rm_PW_start s m _ below meth c s.heap [] 0 0 _ _
  refine lv_aload_n hx hb d_PW_start_0 rfl (lv_at hl 0 rfl) ?_
  refine va_get (D := (dC, dI)) (ci := 1) (v := .ref q_rest) (C := "StructureRows$Power") (T := T_PW) (N := 3) hx hb hts in_PW hown hK hP 0 rfl rfl 0 (by decide) (hts _ tw_95) (fun _ h9 => h9) rfl d_PW_start_1 ?_
  refine lv_iconst (v := 0) hx hb d_PW_start_4 (by decide) ?_
  refine lv_iload_n hx hb d_PW_start_5 rfl (lv_at hl 1 rfl) ?_
  refine lv_i2l (v := a_0.toInt64) hx hb d_PW_start_6 rfl ?_
  obtain ⟨h_1, hw⟩ := hw
  obtain ⟨w_2, ew_2⟩ : ∃ y : Nat → Int64, y = vp_updL x_rest (0 : Int32).toNatClampNeg a_0.toInt64 := ⟨_, rfl⟩
  replace hw := hw w_2 ew_2
  refine va_last hx hb hK hP hD hS 1 0 rfl rfl h_1 d_PW_start_7 (fun H locs hP hD hS => ?_)
  rw [← ew_2] at hP hD
  replace hP : va_P (dC, dI) zz_cl [(q_this, .inr (1, [.ref q_rest, .ref q_shares, .int x_known])), (q_rest, .inl (k_rest, 4, .inr (.inl w_2)))] H := hP
  replace hD : va_D A [(q_this, .inr (1, [.ref q_rest, .ref q_shares, .int x_known])), (q_rest, .inl (k_rest, 4, .inr (.inl w_2)))] := hD
  refine lv_aload_n hx hb d_PW_start_8 rfl (lv_at hl 0 rfl) ?_
  refine va_get (D := (dC, dI)) (ci := 1) (v := .ref q_rest) (C := "StructureRows$Power") (T := T_PW) (N := 3) hx hb hts in_PW hown hK hP 0 rfl rfl 0 (by decide) (hts _ tw_95) (fun _ h9 => h9) rfl d_PW_start_9 ?_
  refine lv_iconst (v := 1) hx hb d_PW_start_12 (by decide) ?_
  refine lv_iload_n hx hb d_PW_start_13 rfl (lv_at hl 2 rfl) ?_
  refine lv_i2l (v := a_1.toInt64) hx hb d_PW_start_14 rfl ?_
  obtain ⟨h_3, hw⟩ := hw
  obtain ⟨w_4, ew_4⟩ : ∃ y : Nat → Int64, y = vp_updL w_2 (1 : Int32).toNatClampNeg a_1.toInt64 := ⟨_, rfl⟩
  replace hw := hw w_4 ew_4
  refine va_last hx hb hK hP hD hS 1 0 rfl rfl h_3 d_PW_start_15 (fun H locs hP hD hS => ?_)
  rw [← ew_4] at hP hD
  replace hP : va_P (dC, dI) zz_cl [(q_this, .inr (1, [.ref q_rest, .ref q_shares, .int x_known])), (q_rest, .inl (k_rest, 4, .inr (.inl w_4)))] H := hP
  replace hD : va_D A [(q_this, .inr (1, [.ref q_rest, .ref q_shares, .int x_known])), (q_rest, .inl (k_rest, 4, .inr (.inl w_4)))] := hD
  refine lv_aload_n hx hb d_PW_start_16 rfl (lv_at hl 0 rfl) ?_
  refine va_get (D := (dC, dI)) (ci := 1) (v := .ref q_rest) (C := "StructureRows$Power") (T := T_PW) (N := 3) hx hb hts in_PW hown hK hP 0 rfl rfl 0 (by decide) (hts _ tw_95) (fun _ h9 => h9) rfl d_PW_start_17 ?_
  refine lv_iconst (v := 2) hx hb d_PW_start_20 (by decide) ?_
  refine lv_iload_n hx hb d_PW_start_21 rfl (lv_at hl 3 rfl) ?_
  refine lv_i2l (v := a_2.toInt64) hx hb d_PW_start_22 rfl ?_
  obtain ⟨h_5, hw⟩ := hw
  obtain ⟨w_6, ew_6⟩ : ∃ y : Nat → Int64, y = vp_updL w_4 (2 : Int32).toNatClampNeg a_2.toInt64 := ⟨_, rfl⟩
  replace hw := hw w_6 ew_6
  refine va_last hx hb hK hP hD hS 1 0 rfl rfl h_5 d_PW_start_23 (fun H locs hP hD hS => ?_)
  rw [← ew_6] at hP hD
  replace hP : va_P (dC, dI) zz_cl [(q_this, .inr (1, [.ref q_rest, .ref q_shares, .int x_known])), (q_rest, .inl (k_rest, 4, .inr (.inl w_6)))] H := hP
  replace hD : va_D A [(q_this, .inr (1, [.ref q_rest, .ref q_shares, .int x_known])), (q_rest, .inl (k_rest, 4, .inr (.inl w_6)))] := hD
  refine lv_aload_n hx hb d_PW_start_24 rfl (lv_at hl 0 rfl) ?_
  refine va_get (D := (dC, dI)) (ci := 1) (v := .ref q_rest) (C := "StructureRows$Power") (T := T_PW) (N := 3) hx hb hts in_PW hown hK hP 0 rfl rfl 0 (by decide) (hts _ tw_95) (fun _ h9 => h9) rfl d_PW_start_25 ?_
  refine lv_iconst (v := 3) hx hb d_PW_start_28 (by decide) ?_
  refine lv_iload hx hb d_PW_start_29 (lv_at hl 4 rfl) ?_
  refine lv_i2l (v := a_3.toInt64) hx hb d_PW_start_31 rfl ?_
  obtain ⟨h_7, hw⟩ := hw
  obtain ⟨w_8, ew_8⟩ : ∃ y : Nat → Int64, y = vp_updL w_6 (3 : Int32).toNatClampNeg a_3.toInt64 := ⟨_, rfl⟩
  replace hw := hw w_8 ew_8
  refine va_last hx hb hK hP hD hS 1 0 rfl rfl h_7 d_PW_start_32 (fun H locs hP hD hS => ?_)
  rw [← ew_8] at hP hD
  replace hP : va_P (dC, dI) zz_cl [(q_this, .inr (1, [.ref q_rest, .ref q_shares, .int x_known])), (q_rest, .inl (k_rest, 4, .inr (.inl w_8)))] H := hP
  replace hD : va_D A [(q_this, .inr (1, [.ref q_rest, .ref q_shares, .int x_known])), (q_rest, .inl (k_rest, 4, .inr (.inl w_8)))] := hD
  exact W.vret hx hb hr (fun t ht hW => ⟨⟨w_8, rfl, hw, by rw [ht]; exact hP, va_K.moved hW.alike hK, hD⟩, hS.F ht⟩) hS.2.2 d_PW_start_33
set_option maxHeartbeats 4000000 in
set_option maxRecDepth 100000 in
theorem go_PW_start {p : Program} {l : Launch} {e : Env} {R : Room} {s : State} {m : MethodId} {args : Array Value} {below : List Frame} {meth : Method} {c : Code} {H : Heap} {locs : List Loc} {cells slots : Nat} {Q : State → Prop} {cc : ByteArray} {nL : Nat} {Ts : List Cond} {own : String} {index : Nat} {A0 : Nat → Prop} {H0 : Heap} {dC : Nat → ClassId} {dI : Nat → Nat → Nat} {ws wr : va_W} {tys : List (ClassId × FieldType)} {q_this q_rest q_shares : Nat} {k_rest : ClassId} {x_known : Int32} {x_rest : Nat → Int64} {a_0 : Int32} {a_1 : Int32} {a_2 : Int32} {a_3 : Int32} {post : (Nat → Int64) → Prop} (S : CallFix p m c cc nL s args Ts own) (cw : CallW R s args own "StructureRows$Power" index y_PW_start b_PW_start 5 none (zz_w y_PW_start b_PW_start 5 none) rm_PW_start 0 0 4) (hK : va_K (dC, dI) zz_cl tys s) (hP : va_P (dC, dI) zz_cl ws H) (hD : va_D A0 ws) (hS : va_S A0 H0 H locs) (hA : ∀ q, H0.size ≤ q → A0 q) (isC isR kt : List Nat) (h1 : isC.filterMap (fun i => ws[i]?) = [(q_this, .inr (1, [.ref q_rest, .ref q_shares, .int x_known])), (q_rest, .inl (k_rest, 4, .inr (.inl x_rest)))]) (h2 : isC.map (fun i => ws[i]?) = ([(q_this, .inr (1, [.ref q_rest, .ref q_shares, .int x_known])), (q_rest, .inl (k_rest, 4, .inr (.inl x_rest)))] : va_W).map some) (h3 : va_nd isC = true) (h4 : isR.map (fun i => ws[i]?) = wr.map some) (h5 : va_nd isR = true) (h6 : ∀ i ∈ isR, i ∉ isC) (h7 : kt.filterMap (fun i => tys[i]?) = [(k_rest, .long)]) (hw : wp_PW_start x_known x_rest a_0 a_1 a_2 a_3 post) {pc : Nat} {ls : Array Slot} {rest : List Value} (hsize : ls.size = nL) (hrest : (rest.map fun v => v.category).sum ≤ 8) (hdg : decode cc pc = .ok (.invokevirtual index, 3)) (hf : cells + 0 ≤ R.cells ∧ slots + 0 ≤ R.slots) (kk : ∀ (m0 : Nat → Int64) (H1 : Heap) (locs1 : List Loc), post m0 → va_P (dC, dI) zz_cl (wr ++ [(q_this, .inr (1, [.ref q_rest, .ref q_shares, .int x_known])), (q_rest, .inl (k_rest, 4, .inr (.inl m0)))]) H1 → va_D A0 (wr ++ [(q_this, .inr (1, [.ref q_rest, .ref q_shares, .int x_known])), (q_rest, .inl (k_rest, 4, .inr (.inl m0)))]) → va_S A0 H0 H1 locs1 → W p l e R s m args below meth c H1 locs1 (cells + 0) (slots + 0) Q (F0 m (pc + 3) ls rest)) : W p l e R s m args below meth c H locs cells slots Q (F0 m pc ls (.int a_3 :: .int a_2 :: .int a_1 :: .int a_0 :: .ref q_this :: rest)) := by
  have hPc := hP.sub (ws' := [(q_this, .inr (1, [.ref q_rest, .ref q_shares, .int x_known])), (q_rest, .inl (k_rest, 4, .inr (.inl x_rest)))]) isC h1
  have hDc := hD.sub (ws' := [(q_this, .inr (1, [.ref q_rest, .ref q_shares, .int x_known])), (q_rest, .inl (k_rest, 4, .inr (.inl x_rest)))]) isC h3 h2
  have hKc := hK.sub (tys' := [(k_rest, .long)]) kt h7
  have hFc := va_free (wc := [(q_this, .inr (1, [.ref q_rest, .ref q_shares, .int x_known])), (q_rest, .inl (k_rest, 4, .inr (.inl x_rest)))]) hD hS hA isC h2
  refine va_callv (va_runV (As := [.int a_0, .int a_1, .int a_2, .int a_3]) (rest := rest) S (c_PW_start l dC dI q_this q_rest q_shares k_rest H.size x_known x_rest a_0 a_1 a_2 a_3 post hw) cw ⟨zz_blind, va_recv hKc hPc (ci := 1) (q0 := 0) rfl rfl, fun U hU hW => ⟨rfl, by rw [hU], by rw [hU]; exact hPc, va_K.moved hW.alike hKc, hDc.weaken (fun _ _ _ _ => trivial)⟩⟩ rfl rfl hsize rfl (lv_room hrest) hdg hf) hS (fun q _ h => hFc q h) hFc (fun u t H1 locs ht hvm hw hB hz1 hk1 hS => ?_)
  obtain ⟨hP1, hK1, hD1⟩ := hB
  rw [ht] at hP1
  obtain ⟨hP2, hD2⟩ := va_join (wr := wr) (w1 := [(q_this, .inr (1, [.ref q_rest, .ref q_shares, .int x_known])), (q_rest, .inl (k_rest, 4, .inr (.inl u)))]) hP hD isC isR h2 h4 h5 h6 hk1 hFc hP1 hD1
  exact kk u H1 locs hw hP2 hD2 hS
abbrev rm_PW_widen : Room := { frames := 0, cells := 0, slots := 0, locals := 0 }
abbrev qz_PW_widen (dC : Nat → ClassId) (dI : Nat → Nat → Nat) (q_this q_rest q_shares : Nat) (k_rest k_shares : ClassId) (x_known : Int32) (post : (Nat → Int64) → (Nat → Int64) → Prop) (A : Nat → Prop) : Array Value → State → Outcome → State → Prop := va_Qv (fun (u : (Nat → Int64) × (Nat → Int64)) => post u.1 u.2) (fun (u : (Nat → Int64) × (Nat → Int64)) (t : State) => va_P (dC, dI) zz_cl [(q_this, .inr (1, [.ref q_rest, .ref q_shares, .int x_known])), (q_rest, .inl (k_rest, 4, .inr (.inl u.1))), (q_shares, .inl (k_shares, 4, .inr (.inl u.2)))] t.heap ∧ va_K (dC, dI) zz_cl [(k_rest, .long), (k_shares, .long)] t ∧ va_D A [(q_this, .inr (1, [.ref q_rest, .ref q_shares, .int x_known])), (q_rest, .inl (k_rest, 4, .inr (.inl u.1))), (q_shares, .inl (k_shares, 4, .inr (.inl u.2)))]) A
def cx_PW_widen (p : Program) (s : State) (m : MethodId) (args : Array Value) (meth : Method) (c : Code) : Prop := p.tables.exec = Jvm.exec ∧ c.code = b_PW_widen ∧ meth.sig.returnType = none ∧ c.maxLocals = 5 ∧ s.vm.findClass "StructureRows$Power" = some m.cls ∧ (∀ w ∈ zz_GW, w.before args s = true) ∧ meth.locks = false
def wp_PW_widen_29b (x_known : Int32) (x_rest : Nat → Int64) (u_1 : Int64) (u_3 : Int32) (post : (Nat → Int64) → (Nat → Int64) → Prop)  (P : (Nat → Int64) → Int32 → Prop) (x_shares : Nat → Int64) (u_4 : Int32) : Prop := (u_3 ≤ u_4 → (post x_rest x_shares)) ∧ (¬ u_3 ≤ u_4 → (vp_in u_4 4 ∧ (vp_in u_4 4 ∧ ∀ w_5 : Nat → Int64, w_5 = vp_updL x_shares u_4.toNatClampNeg ((x_shares u_4.toNatClampNeg) * u_1) → (∀ v_6 : Int32, v_6 = u_4 + 1 → (P w_5 v_6)))))
def wp_PW_widen_29 (x_known : Int32) (x_rest : Nat → Int64) (u_1 : Int64) (u_3 : Int32) (post : (Nat → Int64) → (Nat → Int64) → Prop)  (x_shares : Nat → Int64) (u_4 : Int32) : Prop := ∀ P : (Nat → Int64) → Int32 → Prop, (∀ (x_shares : Nat → Int64) (u_4 : Int32), wp_PW_widen_29b x_known x_rest u_1 u_3 post P x_shares u_4 → P x_shares u_4) → P x_shares u_4
set_option maxHeartbeats 4000000 in
set_option maxRecDepth 100000 in
theorem k_PW_widen_29 {p : Program} {l : Launch} {e : Env} {s : State} {m : MethodId} {args : Array Value} {below : List Frame} {meth : Method} {c : Code} {dC : Nat → ClassId} {dI : Nat → Nat → Nat} {A : Nat → Prop} {q_this q_rest q_shares : Nat} {k_rest k_shares : ClassId} {x_known : Int32} {x_rest : Nat → Int64} {u_1 : Int64} {u_3 : Int32} {post : (Nat → Int64) → (Nat → Int64) → Prop}  (C0 : cx_PW_widen p s m args meth c) (hA : ∀ q : Nat, s.heap.size ≤ q → A q) (hK : va_K (dC, dI) zz_cl [(k_rest, .long), (k_shares, .long)] s) {x_shares : Nat → Int64} {u_4 : Int32} (hw : wp_PW_widen_29 x_known x_rest u_1 u_3 post x_shares u_4) {H : Heap} {locs : List Loc} {ls : Array Slot} (hP : va_P (dC, dI) zz_cl [(q_this, .inr (1, [.ref q_rest, .ref q_shares, .int x_known])), (q_rest, .inl (k_rest, 4, .inr (.inl x_rest))), (q_shares, .inl (k_shares, 4, .inr (.inl x_shares)))] H) (hD : va_D A [(q_this, .inr (1, [.ref q_rest, .ref q_shares, .int x_known])), (q_rest, .inl (k_rest, 4, .inr (.inl x_rest))), (q_shares, .inl (k_shares, 4, .inr (.inl x_shares)))]) (hS : va_S A s.heap H locs) (hl : lv_has ls 5 [(0, .ref q_this), (1, .long u_1), (3, .int u_3), (4, .int u_4)]) : W p l e rm_PW_widen s m args below meth c H locs 0 0 (MQ below (qz_PW_widen dC dI q_this q_rest q_shares k_rest k_shares x_known post A) args s 0 0 A) (F0 m 29 ls []) := by
  have C1 := C0
  obtain ⟨hx, hb, hr, hml, hown, hts, hlocks⟩ := C1
  refine hw (fun (x_shares : Nat → Int64) (u_4 : Int32) => ∀ (H : Heap) (locs : List Loc) (ls : Array Slot), va_P (dC, dI) zz_cl [(q_this, .inr (1, [.ref q_rest, .ref q_shares, .int x_known])), (q_rest, .inl (k_rest, 4, .inr (.inl x_rest))), (q_shares, .inl (k_shares, 4, .inr (.inl x_shares)))] H → va_D A [(q_this, .inr (1, [.ref q_rest, .ref q_shares, .int x_known])), (q_rest, .inl (k_rest, 4, .inr (.inl x_rest))), (q_shares, .inl (k_shares, 4, .inr (.inl x_shares)))] → va_S A s.heap H locs → lv_has ls 5 [(0, .ref q_this), (1, .long u_1), (3, .int u_3), (4, .int u_4)] → W p l e rm_PW_widen s m args below meth c H locs 0 0 (MQ below (qz_PW_widen dC dI q_this q_rest q_shares k_rest k_shares x_known post A) args s 0 0 A) (F0 m 29 ls [])) ?_ H locs ls hP hD hS hl
  clear hw hP hD hS hl H locs ls
  intro x_shares u_4 hw H locs ls hP hD hS hl
  unfold wp_PW_widen_29b at hw
  refine lv_iload hx hb d_PW_widen_29 (lv_at hl 3 rfl) ?_
  refine lv_iload_n hx hb d_PW_widen_31 rfl (lv_at hl 2 rfl) ?_
  refine lv_icmp_ge (tgt := 52) hx hb d_PW_widen_32 (by decide) (fun h_2 => ?_) (fun h_2 => ?_)
  · replace hw := hw.1 h_2
    exact W.vret hx hb hr (fun t ht hW => ⟨⟨(x_rest, x_shares), rfl, hw, by rw [ht]; exact hP, va_K.moved hW.alike hK, hD⟩, hS.F ht⟩) hS.2.2 d_PW_widen_52
  · replace hw := hw.2 h_2
    refine lv_aload_n hx hb d_PW_widen_35 rfl (lv_at hl 0 rfl) ?_
    refine va_get (D := (dC, dI)) (ci := 1) (v := .ref q_shares) (C := "StructureRows$Power") (T := T_PW) (N := 3) hx hb hts in_PW hown hK hP 0 rfl rfl 1 (by decide) (hts _ tw_96) (fun _ h9 => h9) rfl d_PW_widen_36 ?_
    refine lv_iload hx hb d_PW_widen_39 (lv_at hl 3 rfl) ?_
    refine lv_dup2_11 hx hb d_PW_widen_41 rfl rfl ?_
    obtain ⟨h_3, hw⟩ := hw
    refine va_lald hx hb hK hP 2 1 rfl rfl h_3 d_PW_widen_42 ?_
    refine lv_lload_n hx hb d_PW_widen_43 rfl (lv_at hl 1 rfl) ?_
    refine lv_lmul hx hb d_PW_widen_44 ?_
    obtain ⟨h_4, hw⟩ := hw
    obtain ⟨w_5, ew_5⟩ : ∃ y : Nat → Int64, y = vp_updL x_shares u_4.toNatClampNeg ((x_shares u_4.toNatClampNeg) * u_1) := ⟨_, rfl⟩
    replace hw := hw w_5 ew_5
    refine va_last hx hb hK hP hD hS 2 1 rfl rfl h_4 d_PW_widen_45 (fun H locs hP hD hS => ?_)
    rw [← ew_5] at hP hD
    replace hP : va_P (dC, dI) zz_cl [(q_this, .inr (1, [.ref q_rest, .ref q_shares, .int x_known])), (q_rest, .inl (k_rest, 4, .inr (.inl x_rest))), (q_shares, .inl (k_shares, 4, .inr (.inl w_5)))] H := hP
    replace hD : va_D A [(q_this, .inr (1, [.ref q_rest, .ref q_shares, .int x_known])), (q_rest, .inl (k_rest, 4, .inr (.inl x_rest))), (q_shares, .inl (k_shares, 4, .inr (.inl w_5)))] := hD
    obtain ⟨v_6, ev_6⟩ : ∃ y : Int32, y = u_4 + 1 := ⟨_, rfl⟩
    replace hw := hw v_6 ev_6
    refine lv_iinc (v := v_6) (lv' := [(4, .int v_6), (0, .ref q_this), (1, .long u_1), (3, .int u_3)]) hx hb d_PW_widen_46 hl (k := 3) rfl (by rw [ev_6]; rfl) (by decide) rfl (fun ls hl => ?_)
    refine lv_goto (tgt := 29) hx hb d_PW_widen_49 (by decide) ?_
    exact hw H locs ls hP hD hS (lv_sub hl [1, 2, 3, 0] rfl)
def wp_PW_widen_3b (x_known : Int32) (x_shares : Nat → Int64) (u_1 : Int64) (u_3 : Int32) (post : (Nat → Int64) → (Nat → Int64) → Prop)  (P : (Nat → Int64) → Int32 → Prop) (x_rest : Nat → Int64) (u_4 : Int32) : Prop := (4 ≤ u_4 → (wp_PW_widen_29 x_known x_rest u_1 u_3 post x_shares 0)) ∧ (¬ 4 ≤ u_4 → (vp_in u_4 4 ∧ (vp_in u_4 4 ∧ ∀ w_9 : Nat → Int64, w_9 = vp_updL x_rest u_4.toNatClampNeg ((x_rest u_4.toNatClampNeg) * u_1) → (∀ v_10 : Int32, v_10 = u_4 + 1 → (P w_9 v_10)))))
def wp_PW_widen_3 (x_known : Int32) (x_shares : Nat → Int64) (u_1 : Int64) (u_3 : Int32) (post : (Nat → Int64) → (Nat → Int64) → Prop)  (x_rest : Nat → Int64) (u_4 : Int32) : Prop := ∀ P : (Nat → Int64) → Int32 → Prop, (∀ (x_rest : Nat → Int64) (u_4 : Int32), wp_PW_widen_3b x_known x_shares u_1 u_3 post P x_rest u_4 → P x_rest u_4) → P x_rest u_4
set_option maxHeartbeats 4000000 in
set_option maxRecDepth 100000 in
theorem k_PW_widen_3 {p : Program} {l : Launch} {e : Env} {s : State} {m : MethodId} {args : Array Value} {below : List Frame} {meth : Method} {c : Code} {dC : Nat → ClassId} {dI : Nat → Nat → Nat} {A : Nat → Prop} {q_this q_rest q_shares : Nat} {k_rest k_shares : ClassId} {x_known : Int32} {x_shares : Nat → Int64} {u_1 : Int64} {u_3 : Int32} {post : (Nat → Int64) → (Nat → Int64) → Prop}  (C0 : cx_PW_widen p s m args meth c) (hA : ∀ q : Nat, s.heap.size ≤ q → A q) (hK : va_K (dC, dI) zz_cl [(k_rest, .long), (k_shares, .long)] s) {x_rest : Nat → Int64} {u_4 : Int32} (hw : wp_PW_widen_3 x_known x_shares u_1 u_3 post x_rest u_4) {H : Heap} {locs : List Loc} {ls : Array Slot} (hP : va_P (dC, dI) zz_cl [(q_this, .inr (1, [.ref q_rest, .ref q_shares, .int x_known])), (q_rest, .inl (k_rest, 4, .inr (.inl x_rest))), (q_shares, .inl (k_shares, 4, .inr (.inl x_shares)))] H) (hD : va_D A [(q_this, .inr (1, [.ref q_rest, .ref q_shares, .int x_known])), (q_rest, .inl (k_rest, 4, .inr (.inl x_rest))), (q_shares, .inl (k_shares, 4, .inr (.inl x_shares)))]) (hS : va_S A s.heap H locs) (hl : lv_has ls 5 [(0, .ref q_this), (1, .long u_1), (3, .int u_3), (4, .int u_4)]) : W p l e rm_PW_widen s m args below meth c H locs 0 0 (MQ below (qz_PW_widen dC dI q_this q_rest q_shares k_rest k_shares x_known post A) args s 0 0 A) (F0 m 3 ls []) := by
  have C1 := C0
  obtain ⟨hx, hb, hr, hml, hown, hts, hlocks⟩ := C1
  refine hw (fun (x_rest : Nat → Int64) (u_4 : Int32) => ∀ (H : Heap) (locs : List Loc) (ls : Array Slot), va_P (dC, dI) zz_cl [(q_this, .inr (1, [.ref q_rest, .ref q_shares, .int x_known])), (q_rest, .inl (k_rest, 4, .inr (.inl x_rest))), (q_shares, .inl (k_shares, 4, .inr (.inl x_shares)))] H → va_D A [(q_this, .inr (1, [.ref q_rest, .ref q_shares, .int x_known])), (q_rest, .inl (k_rest, 4, .inr (.inl x_rest))), (q_shares, .inl (k_shares, 4, .inr (.inl x_shares)))] → va_S A s.heap H locs → lv_has ls 5 [(0, .ref q_this), (1, .long u_1), (3, .int u_3), (4, .int u_4)] → W p l e rm_PW_widen s m args below meth c H locs 0 0 (MQ below (qz_PW_widen dC dI q_this q_rest q_shares k_rest k_shares x_known post A) args s 0 0 A) (F0 m 3 ls [])) ?_ H locs ls hP hD hS hl
  clear hw hP hD hS hl H locs ls
  intro x_rest u_4 hw H locs ls hP hD hS hl
  unfold wp_PW_widen_3b at hw
  refine lv_iload hx hb d_PW_widen_3 (lv_at hl 3 rfl) ?_
  refine lv_iconst (v := 4) hx hb d_PW_widen_5 (by decide) ?_
  refine lv_icmp_ge (tgt := 26) hx hb d_PW_widen_6 (by decide) (fun h_1 => ?_) (fun h_1 => ?_)
  · replace hw := hw.1 h_1
    refine lv_iconst (v := 0) hx hb d_PW_widen_26 (by decide) ?_
    refine lv_istore (lv' := [(4, .int 0), (0, .ref q_this), (1, .long u_1), (3, .int u_3)]) hx hb d_PW_widen_27 hl (by decide) rfl (fun ls hl => ?_)
    exact k_PW_widen_29 C0 hA hK hw hP hD hS (lv_sub hl [1, 2, 3, 0] rfl)
  · replace hw := hw.2 h_1
    refine lv_aload_n hx hb d_PW_widen_9 rfl (lv_at hl 0 rfl) ?_
    refine va_get (D := (dC, dI)) (ci := 1) (v := .ref q_rest) (C := "StructureRows$Power") (T := T_PW) (N := 3) hx hb hts in_PW hown hK hP 0 rfl rfl 0 (by decide) (hts _ tw_95) (fun _ h9 => h9) rfl d_PW_widen_10 ?_
    refine lv_iload hx hb d_PW_widen_13 (lv_at hl 3 rfl) ?_
    refine lv_dup2_11 hx hb d_PW_widen_15 rfl rfl ?_
    obtain ⟨h_7, hw⟩ := hw
    refine va_lald hx hb hK hP 1 0 rfl rfl h_7 d_PW_widen_16 ?_
    refine lv_lload_n hx hb d_PW_widen_17 rfl (lv_at hl 1 rfl) ?_
    refine lv_lmul hx hb d_PW_widen_18 ?_
    obtain ⟨h_8, hw⟩ := hw
    obtain ⟨w_9, ew_9⟩ : ∃ y : Nat → Int64, y = vp_updL x_rest u_4.toNatClampNeg ((x_rest u_4.toNatClampNeg) * u_1) := ⟨_, rfl⟩
    replace hw := hw w_9 ew_9
    refine va_last hx hb hK hP hD hS 1 0 rfl rfl h_8 d_PW_widen_19 (fun H locs hP hD hS => ?_)
    rw [← ew_9] at hP hD
    replace hP : va_P (dC, dI) zz_cl [(q_this, .inr (1, [.ref q_rest, .ref q_shares, .int x_known])), (q_rest, .inl (k_rest, 4, .inr (.inl w_9))), (q_shares, .inl (k_shares, 4, .inr (.inl x_shares)))] H := hP
    replace hD : va_D A [(q_this, .inr (1, [.ref q_rest, .ref q_shares, .int x_known])), (q_rest, .inl (k_rest, 4, .inr (.inl w_9))), (q_shares, .inl (k_shares, 4, .inr (.inl x_shares)))] := hD
    obtain ⟨v_10, ev_10⟩ : ∃ y : Int32, y = u_4 + 1 := ⟨_, rfl⟩
    replace hw := hw v_10 ev_10
    refine lv_iinc (v := v_10) (lv' := [(4, .int v_10), (0, .ref q_this), (1, .long u_1), (3, .int u_3)]) hx hb d_PW_widen_20 hl (k := 3) rfl (by rw [ev_10]; rfl) (by decide) rfl (fun ls hl => ?_)
    refine lv_goto (tgt := 3) hx hb d_PW_widen_23 (by decide) ?_
    exact hw H locs ls hP hD hS (lv_sub hl [1, 2, 3, 0] rfl)
def wp_PW_widen (x_known : Int32) (x_rest : Nat → Int64) (x_shares : Nat → Int64) (a_0 : Int64) (a_1 : Int32) (post : (Nat → Int64) → (Nat → Int64) → Prop) : Prop := wp_PW_widen_3 x_known x_shares a_0 a_1 post x_rest 0
set_option maxHeartbeats 4000000 in
set_option maxRecDepth 100000 in
theorem c_PW_widen (l : Launch) (dC : Nat → ClassId) (dI : Nat → Nat → Nat) (q_this q_rest q_shares : Nat) (k_rest k_shares : ClassId) (sz : Nat) (x_known : Int32) (x_rest : Nat → Int64) (x_shares : Nat → Int64) (a_0 : Int64) (a_1 : Int32) (post : (Nat → Int64) → (Nat → Int64) → Prop) (hw : wp_PW_widen x_known x_rest x_shares a_0 a_1 post) : Met l y_PW_widen (zz_w y_PW_widen b_PW_widen 5 none) rm_PW_widen (va_Pc [.ref q_this, .long a_0, .int a_1] (fun U => U.heap.size = sz ∧ va_P (dC, dI) zz_cl [(q_this, .inr (1, [.ref q_rest, .ref q_shares, .int x_known])), (q_rest, .inl (k_rest, 4, .inr (.inl x_rest))), (q_shares, .inl (k_shares, 4, .inr (.inl x_shares)))] U.heap ∧ va_K (dC, dI) zz_cl [(k_rest, .long), (k_shares, .long)] U ∧ va_D (fun _ => True) [(q_this, .inr (1, [.ref q_rest, .ref q_shares, .int x_known])), (q_rest, .inl (k_rest, 4, .inr (.inl x_rest))), (q_shares, .inl (k_shares, 4, .inr (.inl x_shares)))])) (qz_PW_widen dC dI q_this q_rest q_shares k_rest k_shares x_known post (va_A [(q_this, .inr (1, [.ref q_rest, .ref q_shares, .int x_known])), (q_rest, .inl (k_rest, 4, .inr (.inl x_rest))), (q_shares, .inl (k_shares, 4, .inr (.inl x_shares)))] sz)) 0 0 (va_A [(q_this, .inr (1, [.ref q_rest, .ref q_shares, .int x_known])), (q_rest, .inl (k_rest, 4, .inr (.inl x_rest))), (q_shares, .inl (k_shares, 4, .inr (.inl x_shares)))] sz) := by
  refine Met.ofW (cc := b_PW_widen) (maxL := 5) (ret := none) (by decide) rfl ?_
  intro p e s m args below meth c s₁ B hml hv
  obtain ⟨rfl, hsz, hP, hK, hD0⟩ := hv
  have hx := B.exec
  have hb := B.bytes
  have hr := B.returns
  have hts0 := atoms_spec (ws := (zz_w y_PW_widen b_PW_widen 5 none)) B.pre
  have hts : ∀ w ∈ zz_GW, w.before _ s = true := fun w h => hts0 w (List.mem_cons_of_mem _ h)
  clear hts0
  have hown : s.vm.findClass "StructureRows$Power" = some m.cls := findClass_of_methodNamed B.named
  have hlocks := B.notSynchronized
  have C0 : cx_PW_widen p s m _ meth c := ⟨hx, hb, hr, hml, hown, hts, hlocks⟩
  subst hsz
  have hD := hD0.self (sz := s.heap.size)
  generalize hAe : va_A [(q_this, .inr (1, [.ref q_rest, .ref q_shares, .int x_known])), (q_rest, .inl (k_rest, 4, .inr (.inl x_rest))), (q_shares, .inl (k_shares, 4, .inr (.inl x_shares)))] s.heap.size = A at hD ⊢
  have hA : ∀ q : Nat, s.heap.size ≤ q → A q := fun q h => by rw [← hAe]; exact Or.inr h
  clear hAe hD0
  have hS : va_S A s.heap s.heap [] := va_S.rf
  have hl := lv_entry ([.ref q_this, .long a_0, .int a_1]) (n := 5) (Nat.le_of_ble_eq_true rfl)
  rw [lg_entry_eq]
  generalize (lg_sl ([.ref q_this, .long a_0, .int a_1]) ++ List.replicate (5 - (lg_sl ([.ref q_this, .long a_0, .int a_1])).length) Slot.unset).toArray = ls at hl ⊢
  replace hl : lv_has ls 5 [(0, .ref q_this), (1, .long a_0), (3, .int a_1)] := hl
  unfold wp_PW_widen at hw
  change W p l e rm_PW_widen s m _ below meth c s.heap [] 0 0 _ _
  refine lv_iconst (v := 0) hx hb d_PW_widen_0 (by decide) ?_
  refine lv_istore (lv' := [(4, .int 0), (0, .ref q_this), (1, .long a_0), (3, .int a_1)]) hx hb d_PW_widen_1 hl (by decide) rfl (fun ls hl => ?_)
  exact k_PW_widen_3 C0 hA hK hw hP hD hS (lv_sub hl [1, 2, 3, 0] rfl)
set_option maxHeartbeats 4000000 in
set_option maxRecDepth 100000 in
theorem go_PW_widen {p : Program} {l : Launch} {e : Env} {R : Room} {s : State} {m : MethodId} {args : Array Value} {below : List Frame} {meth : Method} {c : Code} {H : Heap} {locs : List Loc} {cells slots : Nat} {Q : State → Prop} {cc : ByteArray} {nL : Nat} {Ts : List Cond} {own : String} {index : Nat} {A0 : Nat → Prop} {H0 : Heap} {dC : Nat → ClassId} {dI : Nat → Nat → Nat} {ws wr : va_W} {tys : List (ClassId × FieldType)} {q_this q_rest q_shares : Nat} {k_rest k_shares : ClassId} {x_known : Int32} {x_rest : Nat → Int64} {x_shares : Nat → Int64} {a_0 : Int64} {a_1 : Int32} {post : (Nat → Int64) → (Nat → Int64) → Prop} (S : CallFix p m c cc nL s args Ts own) (cw : CallW R s args own "StructureRows$Power" index y_PW_widen b_PW_widen 5 none (zz_w y_PW_widen b_PW_widen 5 none) rm_PW_widen 0 0 2) (hK : va_K (dC, dI) zz_cl tys s) (hP : va_P (dC, dI) zz_cl ws H) (hD : va_D A0 ws) (hS : va_S A0 H0 H locs) (hA : ∀ q, H0.size ≤ q → A0 q) (isC isR kt : List Nat) (h1 : isC.filterMap (fun i => ws[i]?) = [(q_this, .inr (1, [.ref q_rest, .ref q_shares, .int x_known])), (q_rest, .inl (k_rest, 4, .inr (.inl x_rest))), (q_shares, .inl (k_shares, 4, .inr (.inl x_shares)))]) (h2 : isC.map (fun i => ws[i]?) = ([(q_this, .inr (1, [.ref q_rest, .ref q_shares, .int x_known])), (q_rest, .inl (k_rest, 4, .inr (.inl x_rest))), (q_shares, .inl (k_shares, 4, .inr (.inl x_shares)))] : va_W).map some) (h3 : va_nd isC = true) (h4 : isR.map (fun i => ws[i]?) = wr.map some) (h5 : va_nd isR = true) (h6 : ∀ i ∈ isR, i ∉ isC) (h7 : kt.filterMap (fun i => tys[i]?) = [(k_rest, .long), (k_shares, .long)]) (hw : wp_PW_widen x_known x_rest x_shares a_0 a_1 post) {pc : Nat} {ls : Array Slot} {rest : List Value} (hsize : ls.size = nL) (hrest : (rest.map fun v => v.category).sum ≤ 8) (hdg : decode cc pc = .ok (.invokevirtual index, 3)) (hf : cells + 0 ≤ R.cells ∧ slots + 0 ≤ R.slots) (kk : ∀ (m0 : Nat → Int64) (m1 : Nat → Int64) (H1 : Heap) (locs1 : List Loc), post m0 m1 → va_P (dC, dI) zz_cl (wr ++ [(q_this, .inr (1, [.ref q_rest, .ref q_shares, .int x_known])), (q_rest, .inl (k_rest, 4, .inr (.inl m0))), (q_shares, .inl (k_shares, 4, .inr (.inl m1)))]) H1 → va_D A0 (wr ++ [(q_this, .inr (1, [.ref q_rest, .ref q_shares, .int x_known])), (q_rest, .inl (k_rest, 4, .inr (.inl m0))), (q_shares, .inl (k_shares, 4, .inr (.inl m1)))]) → va_S A0 H0 H1 locs1 → W p l e R s m args below meth c H1 locs1 (cells + 0) (slots + 0) Q (F0 m (pc + 3) ls rest)) : W p l e R s m args below meth c H locs cells slots Q (F0 m pc ls (.int a_1 :: .long a_0 :: .ref q_this :: rest)) := by
  have hPc := hP.sub (ws' := [(q_this, .inr (1, [.ref q_rest, .ref q_shares, .int x_known])), (q_rest, .inl (k_rest, 4, .inr (.inl x_rest))), (q_shares, .inl (k_shares, 4, .inr (.inl x_shares)))]) isC h1
  have hDc := hD.sub (ws' := [(q_this, .inr (1, [.ref q_rest, .ref q_shares, .int x_known])), (q_rest, .inl (k_rest, 4, .inr (.inl x_rest))), (q_shares, .inl (k_shares, 4, .inr (.inl x_shares)))]) isC h3 h2
  have hKc := hK.sub (tys' := [(k_rest, .long), (k_shares, .long)]) kt h7
  have hFc := va_free (wc := [(q_this, .inr (1, [.ref q_rest, .ref q_shares, .int x_known])), (q_rest, .inl (k_rest, 4, .inr (.inl x_rest))), (q_shares, .inl (k_shares, 4, .inr (.inl x_shares)))]) hD hS hA isC h2
  refine va_callv (va_runV (As := [.long a_0, .int a_1]) (rest := rest) S (c_PW_widen l dC dI q_this q_rest q_shares k_rest k_shares H.size x_known x_rest x_shares a_0 a_1 post hw) cw ⟨zz_blind, va_recv hKc hPc (ci := 1) (q0 := 0) rfl rfl, fun U hU hW => ⟨rfl, by rw [hU], by rw [hU]; exact hPc, va_K.moved hW.alike hKc, hDc.weaken (fun _ _ _ _ => trivial)⟩⟩ rfl rfl hsize rfl (lv_room hrest) hdg hf) hS (fun q _ h => hFc q h) hFc (fun u t H1 locs ht hvm hw hB hz1 hk1 hS => ?_)
  obtain ⟨hP1, hK1, hD1⟩ := hB
  rw [ht] at hP1
  obtain ⟨hP2, hD2⟩ := va_join (wr := wr) (w1 := [(q_this, .inr (1, [.ref q_rest, .ref q_shares, .int x_known])), (q_rest, .inl (k_rest, 4, .inr (.inl u.1))), (q_shares, .inl (k_shares, 4, .inr (.inl u.2)))]) hP hD isC isR h2 h4 h5 h6 hk1 hFc hP1 hD1
  exact kk u.1 u.2 H1 locs hw hP2 hD2 hS
abbrev rm_PW_takeAwayShare : Room := { frames := 2, cells := 0, slots := 0, locals := 44 }
abbrev qz_PW_takeAwayShare (dC : Nat → ClassId) (dI : Nat → Nat → Nat) (q_this q_rest q_shares q_p0 q_p0_cells q_p0_beginnings : Nat) (k_rest k_shares k_p0_cells : ClassId) (x_known : Int32) (x_shares : Nat → Int64) (x_p0_height : Int32) (x_p0_width : Int32) (x_p0_imageHeight : Int32) (x_p0_cells : Nat → Int64) (post : (Nat → Int64) → Prop) (A : Nat → Prop) : Array Value → State → Outcome → State → Prop := va_Qv (fun (u : (Nat → Int64)) => post u) (fun (u : (Nat → Int64)) (t : State) => va_P (dC, dI) zz_cl [(q_this, .inr (1, [.ref q_rest, .ref q_shares, .int x_known])), (q_rest, .inl (k_rest, 4, .inr (.inl u))), (q_shares, .inl (k_shares, 4, .inr (.inl x_shares))), (q_p0, .inr (2, [.ref q_p0_cells, .ref q_p0_beginnings, .int x_p0_height, .int x_p0_width, .int x_p0_imageHeight])), (q_p0_cells, .inl (k_p0_cells, 32, .inr (.inl x_p0_cells)))] t.heap ∧ va_K (dC, dI) zz_cl [(k_rest, .long), (k_shares, .long), (k_p0_cells, .long)] t ∧ va_D A [(q_this, .inr (1, [.ref q_rest, .ref q_shares, .int x_known])), (q_rest, .inl (k_rest, 4, .inr (.inl u))), (q_shares, .inl (k_shares, 4, .inr (.inl x_shares))), (q_p0, .inr (2, [.ref q_p0_cells, .ref q_p0_beginnings, .int x_p0_height, .int x_p0_width, .int x_p0_imageHeight])), (q_p0_cells, .inl (k_p0_cells, 32, .inr (.inl x_p0_cells)))]) A
def cx_PW_takeAwayShare (p : Program) (s : State) (m : MethodId) (args : Array Value) (meth : Method) (c : Code) : Prop := p.tables.exec = Jvm.exec ∧ c.code = b_PW_takeAwayShare ∧ meth.sig.returnType = none ∧ c.maxLocals = 4 ∧ s.vm.findClass "StructureRows$Power" = some m.cls ∧ (∀ w ∈ zz_GW, w.before args s = true) ∧ meth.locks = false
def wp_PW_takeAwayShare_2b (x_known : Int32) (x_shares : Nat → Int64) (x_p0_height : Int32) (x_p0_width : Int32) (x_p0_imageHeight : Int32) (x_p0_cells : Nat → Int64) (u_2 : Int32) (post : (Nat → Int64) → Prop)  (P : (Nat → Int64) → Int32 → Prop) (x_rest : Nat → Int64) (u_3 : Int32) : Prop := (4 ≤ u_3 → (post x_rest)) ∧ (¬ 4 ≤ u_3 → (vp_in u_3 4 ∧ (vp_in u_2 4 ∧ (wp_RD_image x_p0_height x_p0_width x_p0_imageHeight x_p0_cells u_2 u_3 (fun (r_4 : Int64) => (vp_in u_3 4 ∧ ∀ w_6 : Nat → Int64, w_6 = vp_updL x_rest u_3.toNatClampNeg ((x_rest u_3.toNatClampNeg) - ((x_shares u_2.toNatClampNeg) * r_4)) → (∀ v_7 : Int32, v_7 = u_3 + 1 → (P w_6 v_7))))))))
def wp_PW_takeAwayShare_2 (x_known : Int32) (x_shares : Nat → Int64) (x_p0_height : Int32) (x_p0_width : Int32) (x_p0_imageHeight : Int32) (x_p0_cells : Nat → Int64) (u_2 : Int32) (post : (Nat → Int64) → Prop)  (x_rest : Nat → Int64) (u_3 : Int32) : Prop := ∀ P : (Nat → Int64) → Int32 → Prop, (∀ (x_rest : Nat → Int64) (u_3 : Int32), wp_PW_takeAwayShare_2b x_known x_shares x_p0_height x_p0_width x_p0_imageHeight x_p0_cells u_2 post P x_rest u_3 → P x_rest u_3) → P x_rest u_3
set_option maxHeartbeats 4000000 in
set_option maxRecDepth 100000 in
theorem k_PW_takeAwayShare_2 {p : Program} {l : Launch} {e : Env} {s : State} {m : MethodId} {args : Array Value} {below : List Frame} {meth : Method} {c : Code} {dC : Nat → ClassId} {dI : Nat → Nat → Nat} {A : Nat → Prop} {q_this q_rest q_shares q_p0 q_p0_cells q_p0_beginnings : Nat} {k_rest k_shares k_p0_cells : ClassId} {x_known : Int32} {x_shares : Nat → Int64} {x_p0_height : Int32} {x_p0_width : Int32} {x_p0_imageHeight : Int32} {x_p0_cells : Nat → Int64} {u_2 : Int32} {post : (Nat → Int64) → Prop}  (C0 : cx_PW_takeAwayShare p s m args meth c) (hA : ∀ q : Nat, s.heap.size ≤ q → A q) (hK : va_K (dC, dI) zz_cl [(k_rest, .long), (k_shares, .long), (k_p0_cells, .long)] s) {x_rest : Nat → Int64} {u_3 : Int32} (hw : wp_PW_takeAwayShare_2 x_known x_shares x_p0_height x_p0_width x_p0_imageHeight x_p0_cells u_2 post x_rest u_3) {H : Heap} {locs : List Loc} {ls : Array Slot} (hP : va_P (dC, dI) zz_cl [(q_this, .inr (1, [.ref q_rest, .ref q_shares, .int x_known])), (q_rest, .inl (k_rest, 4, .inr (.inl x_rest))), (q_shares, .inl (k_shares, 4, .inr (.inl x_shares))), (q_p0, .inr (2, [.ref q_p0_cells, .ref q_p0_beginnings, .int x_p0_height, .int x_p0_width, .int x_p0_imageHeight])), (q_p0_cells, .inl (k_p0_cells, 32, .inr (.inl x_p0_cells)))] H) (hD : va_D A [(q_this, .inr (1, [.ref q_rest, .ref q_shares, .int x_known])), (q_rest, .inl (k_rest, 4, .inr (.inl x_rest))), (q_shares, .inl (k_shares, 4, .inr (.inl x_shares))), (q_p0, .inr (2, [.ref q_p0_cells, .ref q_p0_beginnings, .int x_p0_height, .int x_p0_width, .int x_p0_imageHeight])), (q_p0_cells, .inl (k_p0_cells, 32, .inr (.inl x_p0_cells)))]) (hS : va_S A s.heap H locs) (hl : lv_has ls 4 [(0, .ref q_this), (1, .ref q_p0), (2, .int u_2), (3, .int u_3)]) : W p l e rm_PW_takeAwayShare s m args below meth c H locs 0 0 (MQ below (qz_PW_takeAwayShare dC dI q_this q_rest q_shares q_p0 q_p0_cells q_p0_beginnings k_rest k_shares k_p0_cells x_known x_shares x_p0_height x_p0_width x_p0_imageHeight x_p0_cells post A) args s 0 0 A) (F0 m 2 ls []) := by
  have C1 := C0
  obtain ⟨hx, hb, hr, hml, hown, hts, hlocks⟩ := C1
  refine hw (fun (x_rest : Nat → Int64) (u_3 : Int32) => ∀ (H : Heap) (locs : List Loc) (ls : Array Slot), va_P (dC, dI) zz_cl [(q_this, .inr (1, [.ref q_rest, .ref q_shares, .int x_known])), (q_rest, .inl (k_rest, 4, .inr (.inl x_rest))), (q_shares, .inl (k_shares, 4, .inr (.inl x_shares))), (q_p0, .inr (2, [.ref q_p0_cells, .ref q_p0_beginnings, .int x_p0_height, .int x_p0_width, .int x_p0_imageHeight])), (q_p0_cells, .inl (k_p0_cells, 32, .inr (.inl x_p0_cells)))] H → va_D A [(q_this, .inr (1, [.ref q_rest, .ref q_shares, .int x_known])), (q_rest, .inl (k_rest, 4, .inr (.inl x_rest))), (q_shares, .inl (k_shares, 4, .inr (.inl x_shares))), (q_p0, .inr (2, [.ref q_p0_cells, .ref q_p0_beginnings, .int x_p0_height, .int x_p0_width, .int x_p0_imageHeight])), (q_p0_cells, .inl (k_p0_cells, 32, .inr (.inl x_p0_cells)))] → va_S A s.heap H locs → lv_has ls 4 [(0, .ref q_this), (1, .ref q_p0), (2, .int u_2), (3, .int u_3)] → W p l e rm_PW_takeAwayShare s m args below meth c H locs 0 0 (MQ below (qz_PW_takeAwayShare dC dI q_this q_rest q_shares q_p0 q_p0_cells q_p0_beginnings k_rest k_shares k_p0_cells x_known x_shares x_p0_height x_p0_width x_p0_imageHeight x_p0_cells post A) args s 0 0 A) (F0 m 2 ls [])) ?_ H locs ls hP hD hS hl
  clear hw hP hD hS hl H locs ls
  intro x_rest u_3 hw H locs ls hP hD hS hl
  unfold wp_PW_takeAwayShare_2b at hw
  refine lv_iload_n hx hb d_PW_takeAwayShare_2 rfl (lv_at hl 3 rfl) ?_
  refine lv_iconst (v := 4) hx hb d_PW_takeAwayShare_3 (by decide) ?_
  refine lv_icmp_ge (tgt := 35) hx hb d_PW_takeAwayShare_4 (by decide) (fun h_1 => ?_) (fun h_1 => ?_)
  · replace hw := hw.1 h_1
    exact W.vret hx hb hr (fun t ht hW => ⟨⟨x_rest, rfl, hw, by rw [ht]; exact hP, va_K.moved hW.alike hK, hD⟩, hS.F ht⟩) hS.2.2 d_PW_takeAwayShare_35
  · replace hw := hw.2 h_1
    refine lv_aload_n hx hb d_PW_takeAwayShare_7 rfl (lv_at hl 0 rfl) ?_
    refine va_get (D := (dC, dI)) (ci := 1) (v := .ref q_rest) (C := "StructureRows$Power") (T := T_PW) (N := 3) hx hb hts in_PW hown hK hP 0 rfl rfl 0 (by decide) (hts _ tw_95) (fun _ h9 => h9) rfl d_PW_takeAwayShare_8 ?_
    refine lv_iload_n hx hb d_PW_takeAwayShare_11 rfl (lv_at hl 3 rfl) ?_
    refine lv_dup2_11 hx hb d_PW_takeAwayShare_12 rfl rfl ?_
    obtain ⟨h_2, hw⟩ := hw
    refine va_lald hx hb hK hP 1 0 rfl rfl h_2 d_PW_takeAwayShare_13 ?_
    refine lv_aload_n hx hb d_PW_takeAwayShare_14 rfl (lv_at hl 0 rfl) ?_
    refine va_get (D := (dC, dI)) (ci := 1) (v := .ref q_shares) (C := "StructureRows$Power") (T := T_PW) (N := 3) hx hb hts in_PW hown hK hP 0 rfl rfl 1 (by decide) (hts _ tw_96) (fun _ h9 => h9) rfl d_PW_takeAwayShare_15 ?_
    refine lv_iload_n hx hb d_PW_takeAwayShare_18 rfl (lv_at hl 2 rfl) ?_
    obtain ⟨h_3, hw⟩ := hw
    refine va_lald hx hb hK hP 2 1 rfl rfl h_3 d_PW_takeAwayShare_19 ?_
    refine lv_aload_n hx hb d_PW_takeAwayShare_20 rfl (lv_at hl 1 rfl) ?_
    refine lv_iload_n hx hb d_PW_takeAwayShare_21 rfl (lv_at hl 2 rfl) ?_
    refine lv_iload_n hx hb d_PW_takeAwayShare_22 rfl (lv_at hl 3 rfl) ?_
    refine go_RD_image (wr := [(q_this, .inr (1, [.ref q_rest, .ref q_shares, .int x_known])), (q_rest, .inl (k_rest, 4, .inr (.inl x_rest))), (q_shares, .inl (k_shares, 4, .inr (.inl x_shares)))]) ⟨hx, hb, hml, hown, hts⟩ (zz_cwV 2 hts tw_389 tw_444 tw_387 tw_388 tw_32 ⟨by decide, by decide, by decide +kernel⟩ ⟨Nat.le_of_ble_eq_true rfl, Nat.le_of_ble_eq_true rfl⟩) hK hP hD hS hA [3, 4] [0, 1, 2] [2] rfl rfl (by decide) rfl (by decide) (by decide) rfl hw hl.1 (Nat.le_of_ble_eq_true rfl) d_PW_takeAwayShare_23 ⟨Nat.le_of_ble_eq_true rfl, Nat.le_of_ble_eq_true rfl⟩ (fun r_4 H locs hw hP hD hS => ?_)
    replace hP : va_P (dC, dI) zz_cl [(q_this, .inr (1, [.ref q_rest, .ref q_shares, .int x_known])), (q_rest, .inl (k_rest, 4, .inr (.inl x_rest))), (q_shares, .inl (k_shares, 4, .inr (.inl x_shares))), (q_p0, .inr (2, [.ref q_p0_cells, .ref q_p0_beginnings, .int x_p0_height, .int x_p0_width, .int x_p0_imageHeight])), (q_p0_cells, .inl (k_p0_cells, 32, .inr (.inl x_p0_cells)))] H := hP
    replace hD : va_D A [(q_this, .inr (1, [.ref q_rest, .ref q_shares, .int x_known])), (q_rest, .inl (k_rest, 4, .inr (.inl x_rest))), (q_shares, .inl (k_shares, 4, .inr (.inl x_shares))), (q_p0, .inr (2, [.ref q_p0_cells, .ref q_p0_beginnings, .int x_p0_height, .int x_p0_width, .int x_p0_imageHeight])), (q_p0_cells, .inl (k_p0_cells, 32, .inr (.inl x_p0_cells)))] := hD
    refine lv_lmul hx hb d_PW_takeAwayShare_26 ?_
    refine lv_lsub hx hb d_PW_takeAwayShare_27 ?_
    obtain ⟨h_5, hw⟩ := hw
    obtain ⟨w_6, ew_6⟩ : ∃ y : Nat → Int64, y = vp_updL x_rest u_3.toNatClampNeg ((x_rest u_3.toNatClampNeg) - ((x_shares u_2.toNatClampNeg) * r_4)) := ⟨_, rfl⟩
    replace hw := hw w_6 ew_6
    refine va_last hx hb hK hP hD hS 1 0 rfl rfl h_5 d_PW_takeAwayShare_28 (fun H locs hP hD hS => ?_)
    rw [← ew_6] at hP hD
    replace hP : va_P (dC, dI) zz_cl [(q_this, .inr (1, [.ref q_rest, .ref q_shares, .int x_known])), (q_rest, .inl (k_rest, 4, .inr (.inl w_6))), (q_shares, .inl (k_shares, 4, .inr (.inl x_shares))), (q_p0, .inr (2, [.ref q_p0_cells, .ref q_p0_beginnings, .int x_p0_height, .int x_p0_width, .int x_p0_imageHeight])), (q_p0_cells, .inl (k_p0_cells, 32, .inr (.inl x_p0_cells)))] H := hP
    replace hD : va_D A [(q_this, .inr (1, [.ref q_rest, .ref q_shares, .int x_known])), (q_rest, .inl (k_rest, 4, .inr (.inl w_6))), (q_shares, .inl (k_shares, 4, .inr (.inl x_shares))), (q_p0, .inr (2, [.ref q_p0_cells, .ref q_p0_beginnings, .int x_p0_height, .int x_p0_width, .int x_p0_imageHeight])), (q_p0_cells, .inl (k_p0_cells, 32, .inr (.inl x_p0_cells)))] := hD
    obtain ⟨v_7, ev_7⟩ : ∃ y : Int32, y = u_3 + 1 := ⟨_, rfl⟩
    replace hw := hw v_7 ev_7
    refine lv_iinc (v := v_7) (lv' := [(3, .int v_7), (0, .ref q_this), (1, .ref q_p0), (2, .int u_2)]) hx hb d_PW_takeAwayShare_29 hl (k := 3) rfl (by rw [ev_7]; rfl) (by decide) rfl (fun ls hl => ?_)
    refine lv_goto (tgt := 2) hx hb d_PW_takeAwayShare_32 (by decide) ?_
    exact hw H locs ls hP hD hS (lv_sub hl [1, 2, 3, 0] rfl)
def wp_PW_takeAwayShare (x_known : Int32) (x_rest : Nat → Int64) (x_shares : Nat → Int64) (x_p0_height : Int32) (x_p0_width : Int32) (x_p0_imageHeight : Int32) (x_p0_cells : Nat → Int64) (a_1 : Int32) (post : (Nat → Int64) → Prop) : Prop := wp_PW_takeAwayShare_2 x_known x_shares x_p0_height x_p0_width x_p0_imageHeight x_p0_cells a_1 post x_rest 0
set_option maxHeartbeats 4000000 in
set_option maxRecDepth 100000 in
theorem c_PW_takeAwayShare (l : Launch) (dC : Nat → ClassId) (dI : Nat → Nat → Nat) (q_this q_rest q_shares q_p0 q_p0_cells q_p0_beginnings : Nat) (k_rest k_shares k_p0_cells : ClassId) (sz : Nat) (x_known : Int32) (x_rest : Nat → Int64) (x_shares : Nat → Int64) (x_p0_height : Int32) (x_p0_width : Int32) (x_p0_imageHeight : Int32) (x_p0_cells : Nat → Int64) (a_1 : Int32) (post : (Nat → Int64) → Prop) (hw : wp_PW_takeAwayShare x_known x_rest x_shares x_p0_height x_p0_width x_p0_imageHeight x_p0_cells a_1 post) : Met l y_PW_takeAwayShare (zz_w y_PW_takeAwayShare b_PW_takeAwayShare 4 none) rm_PW_takeAwayShare (va_Pc [.ref q_this, .ref q_p0, .int a_1] (fun U => U.heap.size = sz ∧ va_P (dC, dI) zz_cl [(q_this, .inr (1, [.ref q_rest, .ref q_shares, .int x_known])), (q_rest, .inl (k_rest, 4, .inr (.inl x_rest))), (q_shares, .inl (k_shares, 4, .inr (.inl x_shares))), (q_p0, .inr (2, [.ref q_p0_cells, .ref q_p0_beginnings, .int x_p0_height, .int x_p0_width, .int x_p0_imageHeight])), (q_p0_cells, .inl (k_p0_cells, 32, .inr (.inl x_p0_cells)))] U.heap ∧ va_K (dC, dI) zz_cl [(k_rest, .long), (k_shares, .long), (k_p0_cells, .long)] U ∧ va_D (fun _ => True) [(q_this, .inr (1, [.ref q_rest, .ref q_shares, .int x_known])), (q_rest, .inl (k_rest, 4, .inr (.inl x_rest))), (q_shares, .inl (k_shares, 4, .inr (.inl x_shares))), (q_p0, .inr (2, [.ref q_p0_cells, .ref q_p0_beginnings, .int x_p0_height, .int x_p0_width, .int x_p0_imageHeight])), (q_p0_cells, .inl (k_p0_cells, 32, .inr (.inl x_p0_cells)))])) (qz_PW_takeAwayShare dC dI q_this q_rest q_shares q_p0 q_p0_cells q_p0_beginnings k_rest k_shares k_p0_cells x_known x_shares x_p0_height x_p0_width x_p0_imageHeight x_p0_cells post (va_A [(q_this, .inr (1, [.ref q_rest, .ref q_shares, .int x_known])), (q_rest, .inl (k_rest, 4, .inr (.inl x_rest))), (q_shares, .inl (k_shares, 4, .inr (.inl x_shares))), (q_p0, .inr (2, [.ref q_p0_cells, .ref q_p0_beginnings, .int x_p0_height, .int x_p0_width, .int x_p0_imageHeight])), (q_p0_cells, .inl (k_p0_cells, 32, .inr (.inl x_p0_cells)))] sz)) 0 0 (va_A [(q_this, .inr (1, [.ref q_rest, .ref q_shares, .int x_known])), (q_rest, .inl (k_rest, 4, .inr (.inl x_rest))), (q_shares, .inl (k_shares, 4, .inr (.inl x_shares))), (q_p0, .inr (2, [.ref q_p0_cells, .ref q_p0_beginnings, .int x_p0_height, .int x_p0_width, .int x_p0_imageHeight])), (q_p0_cells, .inl (k_p0_cells, 32, .inr (.inl x_p0_cells)))] sz) := by
  refine Met.ofW (cc := b_PW_takeAwayShare) (maxL := 4) (ret := none) (by decide) rfl ?_
  intro p e s m args below meth c s₁ B hml hv
  obtain ⟨rfl, hsz, hP, hK, hD0⟩ := hv
  have hx := B.exec
  have hb := B.bytes
  have hr := B.returns
  have hts0 := atoms_spec (ws := (zz_w y_PW_takeAwayShare b_PW_takeAwayShare 4 none)) B.pre
  have hts : ∀ w ∈ zz_GW, w.before _ s = true := fun w h => hts0 w (List.mem_cons_of_mem _ h)
  clear hts0
  have hown : s.vm.findClass "StructureRows$Power" = some m.cls := findClass_of_methodNamed B.named
  have hlocks := B.notSynchronized
  have C0 : cx_PW_takeAwayShare p s m _ meth c := ⟨hx, hb, hr, hml, hown, hts, hlocks⟩
  subst hsz
  have hD := hD0.self (sz := s.heap.size)
  generalize hAe : va_A [(q_this, .inr (1, [.ref q_rest, .ref q_shares, .int x_known])), (q_rest, .inl (k_rest, 4, .inr (.inl x_rest))), (q_shares, .inl (k_shares, 4, .inr (.inl x_shares))), (q_p0, .inr (2, [.ref q_p0_cells, .ref q_p0_beginnings, .int x_p0_height, .int x_p0_width, .int x_p0_imageHeight])), (q_p0_cells, .inl (k_p0_cells, 32, .inr (.inl x_p0_cells)))] s.heap.size = A at hD ⊢
  have hA : ∀ q : Nat, s.heap.size ≤ q → A q := fun q h => by rw [← hAe]; exact Or.inr h
  clear hAe hD0
  have hS : va_S A s.heap s.heap [] := va_S.rf
  have hl := lv_entry ([.ref q_this, .ref q_p0, .int a_1]) (n := 4) (Nat.le_of_ble_eq_true rfl)
  rw [lg_entry_eq]
  generalize (lg_sl ([.ref q_this, .ref q_p0, .int a_1]) ++ List.replicate (4 - (lg_sl ([.ref q_this, .ref q_p0, .int a_1])).length) Slot.unset).toArray = ls at hl ⊢
  replace hl : lv_has ls 4 [(0, .ref q_this), (1, .ref q_p0), (2, .int a_1)] := hl
  unfold wp_PW_takeAwayShare at hw
  change W p l e rm_PW_takeAwayShare s m _ below meth c s.heap [] 0 0 _ _
  refine lv_iconst (v := 0) hx hb d_PW_takeAwayShare_0 (by decide) ?_
  refine lv_istore_n (lv' := [(3, .int 0), (0, .ref q_this), (1, .ref q_p0), (2, .int a_1)]) hx hb d_PW_takeAwayShare_1 rfl hl (by decide) rfl (fun ls hl => ?_)
  exact k_PW_takeAwayShare_2 C0 hA hK hw hP hD hS (lv_sub hl [1, 2, 3, 0] rfl)
set_option maxHeartbeats 4000000 in
set_option maxRecDepth 100000 in
theorem go_PW_takeAwayShare {p : Program} {l : Launch} {e : Env} {R : Room} {s : State} {m : MethodId} {args : Array Value} {below : List Frame} {meth : Method} {c : Code} {H : Heap} {locs : List Loc} {cells slots : Nat} {Q : State → Prop} {cc : ByteArray} {nL : Nat} {Ts : List Cond} {own : String} {index : Nat} {A0 : Nat → Prop} {H0 : Heap} {dC : Nat → ClassId} {dI : Nat → Nat → Nat} {ws wr : va_W} {tys : List (ClassId × FieldType)} {q_this q_rest q_shares q_p0 q_p0_cells q_p0_beginnings : Nat} {k_rest k_shares k_p0_cells : ClassId} {x_known : Int32} {x_rest : Nat → Int64} {x_shares : Nat → Int64} {x_p0_height : Int32} {x_p0_width : Int32} {x_p0_imageHeight : Int32} {x_p0_cells : Nat → Int64} {a_1 : Int32} {post : (Nat → Int64) → Prop} (S : CallFix p m c cc nL s args Ts own) (cw : CallW R s args own "StructureRows$Power" index y_PW_takeAwayShare b_PW_takeAwayShare 4 none (zz_w y_PW_takeAwayShare b_PW_takeAwayShare 4 none) rm_PW_takeAwayShare 0 0 2) (hK : va_K (dC, dI) zz_cl tys s) (hP : va_P (dC, dI) zz_cl ws H) (hD : va_D A0 ws) (hS : va_S A0 H0 H locs) (hA : ∀ q, H0.size ≤ q → A0 q) (isC isR kt : List Nat) (h1 : isC.filterMap (fun i => ws[i]?) = [(q_this, .inr (1, [.ref q_rest, .ref q_shares, .int x_known])), (q_rest, .inl (k_rest, 4, .inr (.inl x_rest))), (q_shares, .inl (k_shares, 4, .inr (.inl x_shares))), (q_p0, .inr (2, [.ref q_p0_cells, .ref q_p0_beginnings, .int x_p0_height, .int x_p0_width, .int x_p0_imageHeight])), (q_p0_cells, .inl (k_p0_cells, 32, .inr (.inl x_p0_cells)))]) (h2 : isC.map (fun i => ws[i]?) = ([(q_this, .inr (1, [.ref q_rest, .ref q_shares, .int x_known])), (q_rest, .inl (k_rest, 4, .inr (.inl x_rest))), (q_shares, .inl (k_shares, 4, .inr (.inl x_shares))), (q_p0, .inr (2, [.ref q_p0_cells, .ref q_p0_beginnings, .int x_p0_height, .int x_p0_width, .int x_p0_imageHeight])), (q_p0_cells, .inl (k_p0_cells, 32, .inr (.inl x_p0_cells)))] : va_W).map some) (h3 : va_nd isC = true) (h4 : isR.map (fun i => ws[i]?) = wr.map some) (h5 : va_nd isR = true) (h6 : ∀ i ∈ isR, i ∉ isC) (h7 : kt.filterMap (fun i => tys[i]?) = [(k_rest, .long), (k_shares, .long), (k_p0_cells, .long)]) (hw : wp_PW_takeAwayShare x_known x_rest x_shares x_p0_height x_p0_width x_p0_imageHeight x_p0_cells a_1 post) {pc : Nat} {ls : Array Slot} {rest : List Value} (hsize : ls.size = nL) (hrest : (rest.map fun v => v.category).sum ≤ 8) (hdg : decode cc pc = .ok (.invokevirtual index, 3)) (hf : cells + 0 ≤ R.cells ∧ slots + 0 ≤ R.slots) (kk : ∀ (m0 : Nat → Int64) (H1 : Heap) (locs1 : List Loc), post m0 → va_P (dC, dI) zz_cl (wr ++ [(q_this, .inr (1, [.ref q_rest, .ref q_shares, .int x_known])), (q_rest, .inl (k_rest, 4, .inr (.inl m0))), (q_shares, .inl (k_shares, 4, .inr (.inl x_shares))), (q_p0, .inr (2, [.ref q_p0_cells, .ref q_p0_beginnings, .int x_p0_height, .int x_p0_width, .int x_p0_imageHeight])), (q_p0_cells, .inl (k_p0_cells, 32, .inr (.inl x_p0_cells)))]) H1 → va_D A0 (wr ++ [(q_this, .inr (1, [.ref q_rest, .ref q_shares, .int x_known])), (q_rest, .inl (k_rest, 4, .inr (.inl m0))), (q_shares, .inl (k_shares, 4, .inr (.inl x_shares))), (q_p0, .inr (2, [.ref q_p0_cells, .ref q_p0_beginnings, .int x_p0_height, .int x_p0_width, .int x_p0_imageHeight])), (q_p0_cells, .inl (k_p0_cells, 32, .inr (.inl x_p0_cells)))]) → va_S A0 H0 H1 locs1 → W p l e R s m args below meth c H1 locs1 (cells + 0) (slots + 0) Q (F0 m (pc + 3) ls rest)) : W p l e R s m args below meth c H locs cells slots Q (F0 m pc ls (.int a_1 :: .ref q_p0 :: .ref q_this :: rest)) := by
  have hPc := hP.sub (ws' := [(q_this, .inr (1, [.ref q_rest, .ref q_shares, .int x_known])), (q_rest, .inl (k_rest, 4, .inr (.inl x_rest))), (q_shares, .inl (k_shares, 4, .inr (.inl x_shares))), (q_p0, .inr (2, [.ref q_p0_cells, .ref q_p0_beginnings, .int x_p0_height, .int x_p0_width, .int x_p0_imageHeight])), (q_p0_cells, .inl (k_p0_cells, 32, .inr (.inl x_p0_cells)))]) isC h1
  have hDc := hD.sub (ws' := [(q_this, .inr (1, [.ref q_rest, .ref q_shares, .int x_known])), (q_rest, .inl (k_rest, 4, .inr (.inl x_rest))), (q_shares, .inl (k_shares, 4, .inr (.inl x_shares))), (q_p0, .inr (2, [.ref q_p0_cells, .ref q_p0_beginnings, .int x_p0_height, .int x_p0_width, .int x_p0_imageHeight])), (q_p0_cells, .inl (k_p0_cells, 32, .inr (.inl x_p0_cells)))]) isC h3 h2
  have hKc := hK.sub (tys' := [(k_rest, .long), (k_shares, .long), (k_p0_cells, .long)]) kt h7
  have hFc := va_free (wc := [(q_this, .inr (1, [.ref q_rest, .ref q_shares, .int x_known])), (q_rest, .inl (k_rest, 4, .inr (.inl x_rest))), (q_shares, .inl (k_shares, 4, .inr (.inl x_shares))), (q_p0, .inr (2, [.ref q_p0_cells, .ref q_p0_beginnings, .int x_p0_height, .int x_p0_width, .int x_p0_imageHeight])), (q_p0_cells, .inl (k_p0_cells, 32, .inr (.inl x_p0_cells)))]) hD hS hA isC h2
  refine va_callv (va_runV (As := [.ref q_p0, .int a_1]) (rest := rest) S (c_PW_takeAwayShare l dC dI q_this q_rest q_shares q_p0 q_p0_cells q_p0_beginnings k_rest k_shares k_p0_cells H.size x_known x_rest x_shares x_p0_height x_p0_width x_p0_imageHeight x_p0_cells a_1 post hw) cw ⟨zz_blind, va_recv hKc hPc (ci := 1) (q0 := 0) rfl rfl, fun U hU hW => ⟨rfl, by rw [hU], by rw [hU]; exact hPc, va_K.moved hW.alike hKc, hDc.weaken (fun _ _ _ _ => trivial)⟩⟩ rfl rfl hsize rfl (lv_room hrest) hdg hf) hS (fun q _ h => hFc q h) hFc (fun u t H1 locs ht hvm hw hB hz1 hk1 hS => ?_)
  obtain ⟨hP1, hK1, hD1⟩ := hB
  rw [ht] at hP1
  obtain ⟨hP2, hD2⟩ := va_join (wr := wr) (w1 := [(q_this, .inr (1, [.ref q_rest, .ref q_shares, .int x_known])), (q_rest, .inl (k_rest, 4, .inr (.inl u))), (q_shares, .inl (k_shares, 4, .inr (.inl x_shares))), (q_p0, .inr (2, [.ref q_p0_cells, .ref q_p0_beginnings, .int x_p0_height, .int x_p0_width, .int x_p0_imageHeight])), (q_p0_cells, .inl (k_p0_cells, 32, .inr (.inl x_p0_cells)))]) hP hD isC isR h2 h4 h5 h6 hk1 hFc hP1 hD1
  exact kk u H1 locs hw hP2 hD2 hS
abbrev rm_PW_isNothingLeft : Room := { frames := 0, cells := 0, slots := 0, locals := 0 }
abbrev qz_PW_isNothingLeft (dC : Nat → ClassId) (dI : Nat → Nat → Nat) (q_this q_rest q_shares : Nat) (k_rest : ClassId) (x_known : Int32) (x_rest : Nat → Int64) (post : Int32 → Prop) (A : Nat → Prop) : Array Value → State → Outcome → State → Prop := va_Qi (fun (r : Int32) (_ : Unit) => post r) (fun (u : Unit) (t : State) => va_P (dC, dI) zz_cl [(q_this, .inr (1, [.ref q_rest, .ref q_shares, .int x_known])), (q_rest, .inl (k_rest, 4, .inr (.inl x_rest)))] t.heap ∧ va_K (dC, dI) zz_cl [(k_rest, .long)] t ∧ va_D A [(q_this, .inr (1, [.ref q_rest, .ref q_shares, .int x_known])), (q_rest, .inl (k_rest, 4, .inr (.inl x_rest)))]) A
def cx_PW_isNothingLeft (p : Program) (s : State) (m : MethodId) (args : Array Value) (meth : Method) (c : Code) : Prop := p.tables.exec = Jvm.exec ∧ c.code = b_PW_isNothingLeft ∧ meth.sig.returnType = (some .boolean) ∧ c.maxLocals = 2 ∧ s.vm.findClass "StructureRows$Power" = some m.cls ∧ (∀ w ∈ zz_GW, w.before args s = true) ∧ meth.locks = false
def wp_PW_isNothingLeft_2b (x_known : Int32) (x_rest : Nat → Int64) (post : Int32 → Prop)  (P : Int32 → Prop) (u_1 : Int32) : Prop := (4 ≤ u_1 → (post 1)) ∧ (¬ 4 ≤ u_1 → (vp_in u_1 4 ∧ (((lg_cmp (x_rest u_1.toNatClampNeg) 0) = 0 → (∀ v_4 : Int32, v_4 = u_1 + 1 → (P v_4))) ∧ (¬ (lg_cmp (x_rest u_1.toNatClampNeg) 0) = 0 → (post 0)))))
def wp_PW_isNothingLeft_2 (x_known : Int32) (x_rest : Nat → Int64) (post : Int32 → Prop)  (u_1 : Int32) : Prop := ∀ P : Int32 → Prop, (∀ (u_1 : Int32), wp_PW_isNothingLeft_2b x_known x_rest post P u_1 → P u_1) → P u_1
set_option maxHeartbeats 4000000 in
set_option maxRecDepth 100000 in
theorem k_PW_isNothingLeft_2 {p : Program} {l : Launch} {e : Env} {s : State} {m : MethodId} {args : Array Value} {below : List Frame} {meth : Method} {c : Code} {dC : Nat → ClassId} {dI : Nat → Nat → Nat} {A : Nat → Prop} {q_this q_rest q_shares : Nat} {k_rest : ClassId} {x_known : Int32} {x_rest : Nat → Int64} {post : Int32 → Prop}  (C0 : cx_PW_isNothingLeft p s m args meth c) (hA : ∀ q : Nat, s.heap.size ≤ q → A q) (hK : va_K (dC, dI) zz_cl [(k_rest, .long)] s) {u_1 : Int32} (hw : wp_PW_isNothingLeft_2 x_known x_rest post u_1) {H : Heap} {locs : List Loc} {ls : Array Slot} (hP : va_P (dC, dI) zz_cl [(q_this, .inr (1, [.ref q_rest, .ref q_shares, .int x_known])), (q_rest, .inl (k_rest, 4, .inr (.inl x_rest)))] H) (hD : va_D A [(q_this, .inr (1, [.ref q_rest, .ref q_shares, .int x_known])), (q_rest, .inl (k_rest, 4, .inr (.inl x_rest)))]) (hS : va_S A s.heap H locs) (hl : lv_has ls 2 [(0, .ref q_this), (1, .int u_1)]) : W p l e rm_PW_isNothingLeft s m args below meth c H locs 0 0 (MQ below (qz_PW_isNothingLeft dC dI q_this q_rest q_shares k_rest x_known x_rest post A) args s 0 0 A) (F0 m 2 ls []) := by
  have C1 := C0
  obtain ⟨hx, hb, hr, hml, hown, hts, hlocks⟩ := C1
  refine hw (fun (u_1 : Int32) => ∀ (H : Heap) (locs : List Loc) (ls : Array Slot), va_P (dC, dI) zz_cl [(q_this, .inr (1, [.ref q_rest, .ref q_shares, .int x_known])), (q_rest, .inl (k_rest, 4, .inr (.inl x_rest)))] H → va_D A [(q_this, .inr (1, [.ref q_rest, .ref q_shares, .int x_known])), (q_rest, .inl (k_rest, 4, .inr (.inl x_rest)))] → va_S A s.heap H locs → lv_has ls 2 [(0, .ref q_this), (1, .int u_1)] → W p l e rm_PW_isNothingLeft s m args below meth c H locs 0 0 (MQ below (qz_PW_isNothingLeft dC dI q_this q_rest q_shares k_rest x_known x_rest post A) args s 0 0 A) (F0 m 2 ls [])) ?_ H locs ls hP hD hS hl
  clear hw hP hD hS hl H locs ls
  intro u_1 hw H locs ls hP hD hS hl
  unfold wp_PW_isNothingLeft_2b at hw
  refine lv_iload_n hx hb d_PW_isNothingLeft_2 rfl (lv_at hl 1 rfl) ?_
  refine lv_iconst (v := 4) hx hb d_PW_isNothingLeft_3 (by decide) ?_
  refine lv_icmp_ge (tgt := 26) hx hb d_PW_isNothingLeft_4 (by decide) (fun h_1 => ?_) (fun h_1 => ?_)
  · replace hw := hw.1 h_1
    refine lv_iconst (v := 1) hx hb d_PW_isNothingLeft_26 (by decide) ?_
    exact W.zret (v := 1) (ty := .boolean) hx hb hr rfl (fun t ht hW => ⟨⟨1, (), rfl, hw, by rw [ht]; exact hP, va_K.moved hW.alike hK, hD⟩, hS.F ht⟩) hS.2.2 d_PW_isNothingLeft_27
  · replace hw := hw.2 h_1
    refine lv_aload_n hx hb d_PW_isNothingLeft_7 rfl (lv_at hl 0 rfl) ?_
    refine va_get (D := (dC, dI)) (ci := 1) (v := .ref q_rest) (C := "StructureRows$Power") (T := T_PW) (N := 3) hx hb hts in_PW hown hK hP 0 rfl rfl 0 (by decide) (hts _ tw_95) (fun _ h9 => h9) rfl d_PW_isNothingLeft_8 ?_
    refine lv_iload_n hx hb d_PW_isNothingLeft_11 rfl (lv_at hl 1 rfl) ?_
    obtain ⟨h_2, hw⟩ := hw
    refine va_lald hx hb hK hP 1 0 rfl rfl h_2 d_PW_isNothingLeft_12 ?_
    refine lv_lconst (v := 0) hx hb d_PW_isNothingLeft_13 (by decide) ?_
    refine W.lcmp hx hb d_PW_isNothingLeft_14 ?_
    refine lv_if_eq (tgt := 20) hx hb d_PW_isNothingLeft_15 (by decide) (fun h_3 => ?_) (fun h_3 => ?_)
    · replace hw := hw.1 h_3
      obtain ⟨v_4, ev_4⟩ : ∃ y : Int32, y = u_1 + 1 := ⟨_, rfl⟩
      replace hw := hw v_4 ev_4
      refine lv_iinc (v := v_4) (lv' := [(1, .int v_4), (0, .ref q_this)]) hx hb d_PW_isNothingLeft_20 hl (k := 1) rfl (by rw [ev_4]; rfl) (by decide) rfl (fun ls hl => ?_)
      refine lv_goto (tgt := 2) hx hb d_PW_isNothingLeft_23 (by decide) ?_
      exact hw H locs ls hP hD hS (lv_sub hl [1, 0] rfl)
    · replace hw := hw.2 h_3
      refine lv_iconst (v := 0) hx hb d_PW_isNothingLeft_18 (by decide) ?_
      exact W.zret (v := 0) (ty := .boolean) hx hb hr rfl (fun t ht hW => ⟨⟨0, (), rfl, hw, by rw [ht]; exact hP, va_K.moved hW.alike hK, hD⟩, hS.F ht⟩) hS.2.2 d_PW_isNothingLeft_19
def wp_PW_isNothingLeft (x_known : Int32) (x_rest : Nat → Int64)  (post : Int32 → Prop) : Prop := wp_PW_isNothingLeft_2 x_known x_rest post 0
set_option maxHeartbeats 4000000 in
set_option maxRecDepth 100000 in
theorem c_PW_isNothingLeft (l : Launch) (dC : Nat → ClassId) (dI : Nat → Nat → Nat) (q_this q_rest q_shares : Nat) (k_rest : ClassId) (sz : Nat) (x_known : Int32) (x_rest : Nat → Int64)  (post : Int32 → Prop) (hw : wp_PW_isNothingLeft x_known x_rest post) : Met l y_PW_isNothingLeft (zz_w y_PW_isNothingLeft b_PW_isNothingLeft 2 (some .boolean)) rm_PW_isNothingLeft (va_Pc [.ref q_this] (fun U => U.heap.size = sz ∧ va_P (dC, dI) zz_cl [(q_this, .inr (1, [.ref q_rest, .ref q_shares, .int x_known])), (q_rest, .inl (k_rest, 4, .inr (.inl x_rest)))] U.heap ∧ va_K (dC, dI) zz_cl [(k_rest, .long)] U ∧ va_D (fun _ => True) [(q_this, .inr (1, [.ref q_rest, .ref q_shares, .int x_known])), (q_rest, .inl (k_rest, 4, .inr (.inl x_rest)))])) (qz_PW_isNothingLeft dC dI q_this q_rest q_shares k_rest x_known x_rest post (va_A [(q_this, .inr (1, [.ref q_rest, .ref q_shares, .int x_known])), (q_rest, .inl (k_rest, 4, .inr (.inl x_rest)))] sz)) 0 0 (va_A [(q_this, .inr (1, [.ref q_rest, .ref q_shares, .int x_known])), (q_rest, .inl (k_rest, 4, .inr (.inl x_rest)))] sz) := by
  refine Met.ofW (cc := b_PW_isNothingLeft) (maxL := 2) (ret := (some .boolean)) (by decide) rfl ?_
  intro p e s m args below meth c s₁ B hml hv
  obtain ⟨rfl, hsz, hP, hK, hD0⟩ := hv
  have hx := B.exec
  have hb := B.bytes
  have hr := B.returns
  have hts0 := atoms_spec (ws := (zz_w y_PW_isNothingLeft b_PW_isNothingLeft 2 (some .boolean))) B.pre
  have hts : ∀ w ∈ zz_GW, w.before _ s = true := fun w h => hts0 w (List.mem_cons_of_mem _ h)
  clear hts0
  have hown : s.vm.findClass "StructureRows$Power" = some m.cls := findClass_of_methodNamed B.named
  have hlocks := B.notSynchronized
  have C0 : cx_PW_isNothingLeft p s m _ meth c := ⟨hx, hb, hr, hml, hown, hts, hlocks⟩
  subst hsz
  have hD := hD0.self (sz := s.heap.size)
  generalize hAe : va_A [(q_this, .inr (1, [.ref q_rest, .ref q_shares, .int x_known])), (q_rest, .inl (k_rest, 4, .inr (.inl x_rest)))] s.heap.size = A at hD ⊢
  have hA : ∀ q : Nat, s.heap.size ≤ q → A q := fun q h => by rw [← hAe]; exact Or.inr h
  clear hAe hD0
  have hS : va_S A s.heap s.heap [] := va_S.rf
  have hl := lv_entry ([.ref q_this]) (n := 2) (Nat.le_of_ble_eq_true rfl)
  rw [lg_entry_eq]
  generalize (lg_sl ([.ref q_this]) ++ List.replicate (2 - (lg_sl ([.ref q_this])).length) Slot.unset).toArray = ls at hl ⊢
  replace hl : lv_has ls 2 [(0, .ref q_this)] := hl
  unfold wp_PW_isNothingLeft at hw
  change W p l e rm_PW_isNothingLeft s m _ below meth c s.heap [] 0 0 _ _
  refine lv_iconst (v := 0) hx hb d_PW_isNothingLeft_0 (by decide) ?_
  refine lv_istore_n (lv' := [(1, .int 0), (0, .ref q_this)]) hx hb d_PW_isNothingLeft_1 rfl hl (by decide) rfl (fun ls hl => ?_)
  exact k_PW_isNothingLeft_2 C0 hA hK hw hP hD hS (lv_sub hl [1, 0] rfl)
set_option maxHeartbeats 4000000 in
set_option maxRecDepth 100000 in
theorem go_PW_isNothingLeft {p : Program} {l : Launch} {e : Env} {R : Room} {s : State} {m : MethodId} {args : Array Value} {below : List Frame} {meth : Method} {c : Code} {H : Heap} {locs : List Loc} {cells slots : Nat} {Q : State → Prop} {cc : ByteArray} {nL : Nat} {Ts : List Cond} {own : String} {index : Nat} {A0 : Nat → Prop} {H0 : Heap} {dC : Nat → ClassId} {dI : Nat → Nat → Nat} {ws wr : va_W} {tys : List (ClassId × FieldType)} {q_this q_rest q_shares : Nat} {k_rest : ClassId} {x_known : Int32} {x_rest : Nat → Int64}  {post : Int32 → Prop} (S : CallFix p m c cc nL s args Ts own) (cw : CallW R s args own "StructureRows$Power" index y_PW_isNothingLeft b_PW_isNothingLeft 2 (some .boolean) (zz_w y_PW_isNothingLeft b_PW_isNothingLeft 2 (some .boolean)) rm_PW_isNothingLeft 0 0 0) (hK : va_K (dC, dI) zz_cl tys s) (hP : va_P (dC, dI) zz_cl ws H) (hD : va_D A0 ws) (hS : va_S A0 H0 H locs) (hA : ∀ q, H0.size ≤ q → A0 q) (isC isR kt : List Nat) (h1 : isC.filterMap (fun i => ws[i]?) = [(q_this, .inr (1, [.ref q_rest, .ref q_shares, .int x_known])), (q_rest, .inl (k_rest, 4, .inr (.inl x_rest)))]) (h2 : isC.map (fun i => ws[i]?) = ([(q_this, .inr (1, [.ref q_rest, .ref q_shares, .int x_known])), (q_rest, .inl (k_rest, 4, .inr (.inl x_rest)))] : va_W).map some) (h3 : va_nd isC = true) (h4 : isR.map (fun i => ws[i]?) = wr.map some) (h5 : va_nd isR = true) (h6 : ∀ i ∈ isR, i ∉ isC) (h7 : kt.filterMap (fun i => tys[i]?) = [(k_rest, .long)]) (hw : wp_PW_isNothingLeft x_known x_rest post) {pc : Nat} {ls : Array Slot} {rest : List Value} (hsize : ls.size = nL) (hrest : (rest.map fun v => v.category).sum ≤ 8) (hdg : decode cc pc = .ok (.invokevirtual index, 3)) (hf : cells + 0 ≤ R.cells ∧ slots + 0 ≤ R.slots) (kk : ∀ (r : Int32) (H1 : Heap) (locs1 : List Loc), post r → va_P (dC, dI) zz_cl (wr ++ [(q_this, .inr (1, [.ref q_rest, .ref q_shares, .int x_known])), (q_rest, .inl (k_rest, 4, .inr (.inl x_rest)))]) H1 → va_D A0 (wr ++ [(q_this, .inr (1, [.ref q_rest, .ref q_shares, .int x_known])), (q_rest, .inl (k_rest, 4, .inr (.inl x_rest)))]) → va_S A0 H0 H1 locs1 → W p l e R s m args below meth c H1 locs1 (cells + 0) (slots + 0) Q (F0 m (pc + 3) ls (.int r :: rest))) : W p l e R s m args below meth c H locs cells slots Q (F0 m pc ls (.ref q_this :: rest)) := by
  have hPc := hP.sub (ws' := [(q_this, .inr (1, [.ref q_rest, .ref q_shares, .int x_known])), (q_rest, .inl (k_rest, 4, .inr (.inl x_rest)))]) isC h1
  have hDc := hD.sub (ws' := [(q_this, .inr (1, [.ref q_rest, .ref q_shares, .int x_known])), (q_rest, .inl (k_rest, 4, .inr (.inl x_rest)))]) isC h3 h2
  have hKc := hK.sub (tys' := [(k_rest, .long)]) kt h7
  have hFc := va_free (wc := [(q_this, .inr (1, [.ref q_rest, .ref q_shares, .int x_known])), (q_rest, .inl (k_rest, 4, .inr (.inl x_rest)))]) hD hS hA isC h2
  refine va_calli (va_runV (As := []) (rest := rest) S (c_PW_isNothingLeft l dC dI q_this q_rest q_shares k_rest H.size x_known x_rest post hw) cw ⟨zz_blind, va_recv hKc hPc (ci := 1) (q0 := 0) rfl rfl, fun U hU hW => ⟨rfl, by rw [hU], by rw [hU]; exact hPc, va_K.moved hW.alike hKc, hDc.weaken (fun _ _ _ _ => trivial)⟩⟩ rfl rfl hsize rfl (lv_room hrest) hdg hf) hS (fun q _ h => hFc q h) hFc (fun r u t H1 locs ht hvm hw hB hz1 hk1 hS => ?_)
  obtain ⟨hP1, hK1, hD1⟩ := hB
  rw [ht] at hP1
  obtain ⟨hP2, hD2⟩ := va_join (wr := wr) (w1 := [(q_this, .inr (1, [.ref q_rest, .ref q_shares, .int x_known])), (q_rest, .inl (k_rest, 4, .inr (.inl x_rest)))]) hP hD isC isR h2 h4 h5 h6 hk1 hFc hP1 hD1
  exact kk r H1 locs hw hP2 hD2 hS
