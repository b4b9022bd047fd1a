abbrev rm_SR_count : Room := { frames := 0, cells := 0, slots := 0, locals := 0 }
abbrev qz_SR_count (dC : Nat → ClassId) (dI : Nat → Nat → Nat) (q_this q_exponents q_byElement q_byLetter q_hullByLetter q_minors q_knownPower : Nat) (x_count : Int32) (x_settled : Int32) (post : Int32 → Prop) (A : Nat → Prop) : Array Value → State → Outcome → State → Prop := va_Qi (fun (r : Int32) (_ : Unit) => post r) (fun (u : Unit) (t : State) => va_P (dC, dI) zz_cl [(q_this, .inr (3, [.ref q_exponents, .int x_count, .ref q_byElement, .ref q_byLetter, .ref q_hullByLetter, .int x_settled, .ref q_minors, .ref q_knownPower]))] t.heap ∧ va_K (dC, dI) zz_cl [] t ∧ va_D A [(q_this, .inr (3, [.ref q_exponents, .int x_count, .ref q_byElement, .ref q_byLetter, .ref q_hullByLetter, .int x_settled, .ref q_minors, .ref q_knownPower]))]) A
def cx_SR_count (p : Program) (s : State) (m : MethodId) (args : Array Value) (meth : Method) (c : Code) : Prop := p.tables.exec = Jvm.exec ∧ c.code = b_SR_count ∧ meth.sig.returnType = (some .int) ∧ c.maxLocals = 1 ∧ s.vm.findClass "StructureRows" = some m.cls ∧ (∀ w ∈ zz_GW, w.before args s = true) ∧ meth.locks = false
def wp_SR_count (x_count : Int32) (x_settled : Int32)  (post : Int32 → Prop) : Prop := post x_count
set_option maxHeartbeats 4000000 in
set_option maxRecDepth 100000 in
theorem c_SR_count (l : Launch) (dC : Nat → ClassId) (dI : Nat → Nat → Nat) (q_this q_exponents q_byElement q_byLetter q_hullByLetter q_minors q_knownPower : Nat) (sz : Nat) (x_count : Int32) (x_settled : Int32)  (post : Int32 → Prop) (hw : wp_SR_count x_count x_settled post) : Met l y_SR_count (zz_w y_SR_count b_SR_count 1 (some .int)) rm_SR_count (va_Pc [.ref q_this] (fun U => U.heap.size = sz ∧ va_P (dC, dI) zz_cl [(q_this, .inr (3, [.ref q_exponents, .int x_count, .ref q_byElement, .ref q_byLetter, .ref q_hullByLetter, .int x_settled, .ref q_minors, .ref q_knownPower]))] U.heap ∧ va_K (dC, dI) zz_cl [] U ∧ va_D (fun _ => True) [(q_this, .inr (3, [.ref q_exponents, .int x_count, .ref q_byElement, .ref q_byLetter, .ref q_hullByLetter, .int x_settled, .ref q_minors, .ref q_knownPower]))])) (qz_SR_count dC dI q_this q_exponents q_byElement q_byLetter q_hullByLetter q_minors q_knownPower x_count x_settled post (va_A [(q_this, .inr (3, [.ref q_exponents, .int x_count, .ref q_byElement, .ref q_byLetter, .ref q_hullByLetter, .int x_settled, .ref q_minors, .ref q_knownPower]))] sz)) 0 0 (va_A [(q_this, .inr (3, [.ref q_exponents, .int x_count, .ref q_byElement, .ref q_byLetter, .ref q_hullByLetter, .int x_settled, .ref q_minors, .ref q_knownPower]))] sz) := by
  refine Met.ofW (cc := b_SR_count) (maxL := 1) (ret := (some .int)) (by decide) rfl ?_
  intro p e s m args below meth c s₁ B hml hv
  obtain ⟨rfl, hsz, hP, hK, hD0⟩ := hv
  have hx := B.exec
  have hb := B.bytes
  have hr := B.returns
  have hts0 := atoms_spec (ws := (zz_w y_SR_count b_SR_count 1 (some .int))) B.pre
  have hts : ∀ w ∈ zz_GW, w.before _ s = true := fun w h => hts0 w (List.mem_cons_of_mem _ h)
  clear hts0
  have hown : s.vm.findClass "StructureRows" = some m.cls := findClass_of_methodNamed B.named
  have hlocks := B.notSynchronized
  have C0 : cx_SR_count p s m _ meth c := ⟨hx, hb, hr, hml, hown, hts, hlocks⟩
  subst hsz
  have hD := hD0.self (sz := s.heap.size)
  generalize hAe : va_A [(q_this, .inr (3, [.ref q_exponents, .int x_count, .ref q_byElement, .ref q_byLetter, .ref q_hullByLetter, .int x_settled, .ref q_minors, .ref q_knownPower]))] s.heap.size = A at hD ⊢
  have hA : ∀ q : Nat, s.heap.size ≤ q → A q := fun q h => by rw [← hAe]; exact Or.inr h
  clear hAe hD0
  have hS : va_S A s.heap s.heap [] := va_S.rf
  have hl := lv_entry ([.ref q_this]) (n := 1) (Nat.le_of_ble_eq_true rfl)
  rw [lg_entry_eq]
  generalize (lg_sl ([.ref q_this]) ++ List.replicate (1 - (lg_sl ([.ref q_this])).length) Slot.unset).toArray = ls at hl ⊢
  replace hl : lv_has ls 1 [(0, .ref q_this)] := hl
  unfold wp_SR_count at hw
  change W p l e rm_SR_count s m _ below meth c s.heap [] 0 0 _ _
  refine lv_aload_n hx hb d_SR_count_0 rfl (lv_at hl 0 rfl) ?_
  refine va_get (D := (dC, dI)) (ci := 3) (v := .int x_count) (C := "StructureRows") (T := T_SR) (N := 8) hx hb hts in_SR hown hK hP 0 rfl rfl 1 (by decide) (hts _ tw_106) (fun _ h9 => h9) rfl d_SR_count_1 ?_
  exact W.iret (v := x_count) hx hb hr (fun t ht hW => ⟨⟨x_count, (), rfl, hw, by rw [ht]; exact hP, va_K.moved hW.alike hK, hD⟩, hS.F ht⟩) hS.2.2 d_SR_count_4
set_option maxHeartbeats 4000000 in
set_option maxRecDepth 100000 in
theorem go_SR_count {p : Program} {l : Launch} {e : Env} {R : Room} {s : State} {m : MethodId} {args : Array Value} {below : List Frame} {meth : Method} {c : Code} {H : Heap} {locs : List Loc} {cells slots : Nat} {Q : State → Prop} {cc : ByteArray} {nL : Nat} {Ts : List Cond} {own : String} {index : Nat} {A0 : Nat → Prop} {H0 : Heap} {dC : Nat → ClassId} {dI : Nat → Nat → Nat} {ws wr : va_W} {tys : List (ClassId × FieldType)} {q_this q_exponents q_byElement q_byLetter q_hullByLetter q_minors q_knownPower : Nat} {x_count : Int32} {x_settled : Int32}  {post : Int32 → Prop} (S : CallFix p m c cc nL s args Ts own) (cw : CallW R s args own "StructureRows" index y_SR_count b_SR_count 1 (some .int) (zz_w y_SR_count b_SR_count 1 (some .int)) rm_SR_count 0 0 0) (hK : va_K (dC, dI) zz_cl tys s) (hP : va_P (dC, dI) zz_cl ws H) (hD : va_D A0 ws) (hS : va_S A0 H0 H locs) (hA : ∀ q, H0.size ≤ q → A0 q) (isC isR kt : List Nat) (h1 : isC.filterMap (fun i => ws[i]?) = [(q_this, .inr (3, [.ref q_exponents, .int x_count, .ref q_byElement, .ref q_byLetter, .ref q_hullByLetter, .int x_settled, .ref q_minors, .ref q_knownPower]))]) (h2 : isC.map (fun i => ws[i]?) = ([(q_this, .inr (3, [.ref q_exponents, .int x_count, .ref q_byElement, .ref q_byLetter, .ref q_hullByLetter, .int x_settled, .ref q_minors, .ref q_knownPower]))] : va_W).map some) (h3 : va_nd isC = true) (h4 : isR.map (fun i => ws[i]?) = wr.map some) (h5 : va_nd isR = true) (h6 : ∀ i ∈ isR, i ∉ isC) (h7 : kt.filterMap (fun i => tys[i]?) = []) (hw : wp_SR_count x_count x_settled post) {pc : Nat} {ls : Array Slot} {rest : List Value} (hsize : ls.size = nL) (hrest : (rest.map fun v => v.category).sum ≤ 8) (hdg : decode cc pc = .ok (.invokevirtual index, 3)) (hf : cells + 0 ≤ R.cells ∧ slots + 0 ≤ R.slots) (kk : ∀ (r : Int32) (H1 : Heap) (locs1 : List Loc), post r → va_P (dC, dI) zz_cl (wr ++ [(q_this, .inr (3, [.ref q_exponents, .int x_count, .ref q_byElement, .ref q_byLetter, .ref q_hullByLetter, .int x_settled, .ref q_minors, .ref q_knownPower]))]) H1 → va_D A0 (wr ++ [(q_this, .inr (3, [.ref q_exponents, .int x_count, .ref q_byElement, .ref q_byLetter, .ref q_hullByLetter, .int x_settled, .ref q_minors, .ref q_knownPower]))]) → va_S A0 H0 H1 locs1 → W p l e R s m args below meth c H1 locs1 (cells + 0) (slots + 0) Q (F0 m (pc + 3) ls (.int r :: rest))) : W p l e R s m args below meth c H locs cells slots Q (F0 m pc ls (.ref q_this :: rest)) := by
  have hPc := hP.sub (ws' := [(q_this, .inr (3, [.ref q_exponents, .int x_count, .ref q_byElement, .ref q_byLetter, .ref q_hullByLetter, .int x_settled, .ref q_minors, .ref q_knownPower]))]) isC h1
  have hDc := hD.sub (ws' := [(q_this, .inr (3, [.ref q_exponents, .int x_count, .ref q_byElement, .ref q_byLetter, .ref q_hullByLetter, .int x_settled, .ref q_minors, .ref q_knownPower]))]) isC h3 h2
  have hKc := hK.sub (tys' := []) kt h7
  have hFc := va_free (wc := [(q_this, .inr (3, [.ref q_exponents, .int x_count, .ref q_byElement, .ref q_byLetter, .ref q_hullByLetter, .int x_settled, .ref q_minors, .ref q_knownPower]))]) hD hS hA isC h2
  refine va_calli (va_runV (As := []) (rest := rest) S (c_SR_count l dC dI q_this q_exponents q_byElement q_byLetter q_hullByLetter q_minors q_knownPower H.size x_count x_settled post hw) cw ⟨zz_blind, va_recv hKc hPc (ci := 3) (q0 := 0) rfl rfl, fun U hU hW => ⟨rfl, by rw [hU], by rw [hU]; exact hPc, va_K.moved hW.alike hKc, hDc.weaken (fun _ _ _ _ => trivial)⟩⟩ rfl rfl hsize rfl (lv_room hrest) hdg hf) hS (fun q _ h => hFc q h) hFc (fun r u t H1 locs ht hvm hw hB hz1 hk1 hS => ?_)
  obtain ⟨hP1, hK1, hD1⟩ := hB
  rw [ht] at hP1
  obtain ⟨hP2, hD2⟩ := va_join (wr := wr) (w1 := [(q_this, .inr (3, [.ref q_exponents, .int x_count, .ref q_byElement, .ref q_byLetter, .ref q_hullByLetter, .int x_settled, .ref q_minors, .ref q_knownPower]))]) hP hD isC isR h2 h4 h5 h6 hk1 hFc hP1 hD1
  exact kk r H1 locs hw hP2 hD2 hS
abbrev rm_SR_forgetAnswers : Room := { frames := 1, cells := 0, slots := 0, locals := 20 }
abbrev qz_SR_forgetAnswers (dC : Nat → ClassId) (dI : Nat → Nat → Nat) (q_this q_exponents q_byElement q_byLetter q_hullByLetter q_minors q_knownPower q_knownPower_rest q_knownPower_shares : Nat) (x_count : Int32) (post : Int32 → Int32 → Prop) (A : Nat → Prop) : Array Value → State → Outcome → State → Prop := va_Qv (fun (u : Int32 × Int32) => post u.1 u.2) (fun (u : Int32 × Int32) (t : State) => va_P (dC, dI) zz_cl [(q_this, .inr (3, [.ref q_exponents, .int x_count, .ref q_byElement, .ref q_byLetter, .ref q_hullByLetter, .int u.1, .ref q_minors, .ref q_knownPower])), (q_knownPower, .inr (1, [.ref q_knownPower_rest, .ref q_knownPower_shares, .int u.2]))] t.heap ∧ va_K (dC, dI) zz_cl [] t ∧ va_D A [(q_this, .inr (3, [.ref q_exponents, .int x_count, .ref q_byElement, .ref q_byLetter, .ref q_hullByLetter, .int u.1, .ref q_minors, .ref q_knownPower])), (q_knownPower, .inr (1, [.ref q_knownPower_rest, .ref q_knownPower_shares, .int u.2]))]) A
def cx_SR_forgetAnswers (p : Program) (s : State) (m : MethodId) (args : Array Value) (meth : Method) (c : Code) : Prop := p.tables.exec = Jvm.exec ∧ c.code = b_SR_forgetAnswers ∧ meth.sig.returnType = none ∧ c.maxLocals = 1 ∧ s.vm.findClass "StructureRows" = some m.cls ∧ (∀ w ∈ zz_GW, w.before args s = true) ∧ meth.locks = false
def wp_SR_forgetAnswers (x_count : Int32) (x_settled : Int32) (x_knownPower_known : Int32)  (post : Int32 → Int32 → Prop) : Prop := wp_PW_forget x_knownPower_known (fun (m_1 : Int32) => (post 0 m_1))
set_option maxHeartbeats 4000000 in
set_option maxRecDepth 100000 in
theorem c_SR_forgetAnswers (l : Launch) (dC : Nat → ClassId) (dI : Nat → Nat → Nat) (q_this q_exponents q_byElement q_byLetter q_hullByLetter q_minors q_knownPower q_knownPower_rest q_knownPower_shares : Nat) (sz : Nat) (x_count : Int32) (x_settled : Int32) (x_knownPower_known : Int32)  (post : Int32 → Int32 → Prop) (hw : wp_SR_forgetAnswers x_count x_settled x_knownPower_known post) : Met l y_SR_forgetAnswers (zz_w y_SR_forgetAnswers b_SR_forgetAnswers 1 none) rm_SR_forgetAnswers (va_Pc [.ref q_this] (fun U => U.heap.size = sz ∧ va_P (dC, dI) zz_cl [(q_this, .inr (3, [.ref q_exponents, .int x_count, .ref q_byElement, .ref q_byLetter, .ref q_hullByLetter, .int x_settled, .ref q_minors, .ref q_knownPower])), (q_knownPower, .inr (1, [.ref q_knownPower_rest, .ref q_knownPower_shares, .int x_knownPower_known]))] U.heap ∧ va_K (dC, dI) zz_cl [] U ∧ va_D (fun _ => True) [(q_this, .inr (3, [.ref q_exponents, .int x_count, .ref q_byElement, .ref q_byLetter, .ref q_hullByLetter, .int x_settled, .ref q_minors, .ref q_knownPower])), (q_knownPower, .inr (1, [.ref q_knownPower_rest, .ref q_knownPower_shares, .int x_knownPower_known]))])) (qz_SR_forgetAnswers dC dI q_this q_exponents q_byElement q_byLetter q_hullByLetter q_minors q_knownPower q_knownPower_rest q_knownPower_shares x_count post (va_A [(q_this, .inr (3, [.ref q_exponents, .int x_count, .ref q_byElement, .ref q_byLetter, .ref q_hullByLetter, .int x_settled, .ref q_minors, .ref q_knownPower])), (q_knownPower, .inr (1, [.ref q_knownPower_rest, .ref q_knownPower_shares, .int x_knownPower_known]))] sz)) 0 0 (va_A [(q_this, .inr (3, [.ref q_exponents, .int x_count, .ref q_byElement, .ref q_byLetter, .ref q_hullByLetter, .int x_settled, .ref q_minors, .ref q_knownPower])), (q_knownPower, .inr (1, [.ref q_knownPower_rest, .ref q_knownPower_shares, .int x_knownPower_known]))] sz) := by
  refine Met.ofW (cc := b_SR_forgetAnswers) (maxL := 1) (ret := none) (by decide) rfl ?_
  intro p e s m args below meth c s₁ B hml hv
  obtain ⟨rfl, hsz, hP, hK, hD0⟩ := hv
  have hx := B.exec
  have hb := B.bytes
  have hr := B.returns
  have hts0 := atoms_spec (ws := (zz_w y_SR_forgetAnswers b_SR_forgetAnswers 1 none)) B.pre
  have hts : ∀ w ∈ zz_GW, w.before _ s = true := fun w h => hts0 w (List.mem_cons_of_mem _ h)
  clear hts0
  have hown : s.vm.findClass "StructureRows" = some m.cls := findClass_of_methodNamed B.named
  have hlocks := B.notSynchronized
  have C0 : cx_SR_forgetAnswers p s m _ meth c := ⟨hx, hb, hr, hml, hown, hts, hlocks⟩
  subst hsz
  have hD := hD0.self (sz := s.heap.size)
  generalize hAe : va_A [(q_this, .inr (3, [.ref q_exponents, .int x_count, .ref q_byElement, .ref q_byLetter, .ref q_hullByLetter, .int x_settled, .ref q_minors, .ref q_knownPower])), (q_knownPower, .inr (1, [.ref q_knownPower_rest, .ref q_knownPower_shares, .int x_knownPower_known]))] s.heap.size = A at hD ⊢
  have hA : ∀ q : Nat, s.heap.size ≤ q → A q := fun q h => by rw [← hAe]; exact Or.inr h
  clear hAe hD0
  have hS : va_S A s.heap s.heap [] := va_S.rf
  have hl := lv_entry ([.ref q_this]) (n := 1) (Nat.le_of_ble_eq_true rfl)
  rw [lg_entry_eq]
  generalize (lg_sl ([.ref q_this]) ++ List.replicate (1 - (lg_sl ([.ref q_this])).length) Slot.unset).toArray = ls at hl ⊢
  replace hl : lv_has ls 1 [(0, .ref q_this)] := hl
  unfold wp_SR_forgetAnswers at hw
  change W p l e rm_SR_forgetAnswers s m _ below meth c s.heap [] 0 0 _ _
  refine lv_aload_n hx hb d_SR_forgetAnswers_0 rfl (lv_at hl 0 rfl) ?_
  refine lv_iconst (v := 0) hx hb d_SR_forgetAnswers_1 (by decide) ?_
  refine va_put (D := (dC, dI)) (ci := 3) (v := .int 0) (ty := .boolean) (C := "StructureRows") (T := T_SR) (N := 8) hx hb hts in_SR ty_SR tyok_SR nm_SR hown hK hP hD hS 0 rfl rfl 5 (by decide) (hts _ tw_110) (fun _ h9 => h9) rfl (by decide +kernel) rfl rfl (Nat.le_of_ble_eq_true rfl) d_SR_forgetAnswers_2 (fun H locs hP hD hS => ?_)
  replace hP : va_P (dC, dI) zz_cl [(q_this, .inr (3, [.ref q_exponents, .int x_count, .ref q_byElement, .ref q_byLetter, .ref q_hullByLetter, .int 0, .ref q_minors, .ref q_knownPower])), (q_knownPower, .inr (1, [.ref q_knownPower_rest, .ref q_knownPower_shares, .int x_knownPower_known]))] H := hP
  replace hD : va_D A [(q_this, .inr (3, [.ref q_exponents, .int x_count, .ref q_byElement, .ref q_byLetter, .ref q_hullByLetter, .int 0, .ref q_minors, .ref q_knownPower])), (q_knownPower, .inr (1, [.ref q_knownPower_rest, .ref q_knownPower_shares, .int x_knownPower_known]))] := hD
  refine lv_aload_n hx hb d_SR_forgetAnswers_5 rfl (lv_at hl 0 rfl) ?_
  refine va_get (D := (dC, dI)) (ci := 3) (v := .ref q_knownPower) (C := "StructureRows") (T := T_SR) (N := 8) hx hb hts in_SR hown hK hP 0 rfl rfl 7 (by decide) (hts _ tw_112) (fun _ h9 => h9) rfl d_SR_forgetAnswers_6 ?_
  refine go_PW_forget (wr := [(q_this, .inr (3, [.ref q_exponents, .int x_count, .ref q_byElement, .ref q_byLetter, .ref q_hullByLetter, .int 0, .ref q_minors, .ref q_knownPower]))]) ⟨hx, hb, hml, hown, hts⟩ (zz_cwV 0 hts tw_223 tw_220 tw_221 tw_222 tw_34 ⟨by decide, by decide, by decide +kernel⟩ ⟨Nat.le_of_ble_eq_true rfl, Nat.le_of_ble_eq_true rfl⟩) hK hP hD hS hA [1] [0] [] rfl rfl (by decide) rfl (by decide) (by decide) rfl hw hl.1 (Nat.le_of_ble_eq_true rfl) d_SR_forgetAnswers_9 ⟨Nat.le_of_ble_eq_true rfl, Nat.le_of_ble_eq_true rfl⟩ (fun m_1 H locs hw hP hD hS => ?_)
  replace hP : va_P (dC, dI) zz_cl [(q_this, .inr (3, [.ref q_exponents, .int x_count, .ref q_byElement, .ref q_byLetter, .ref q_hullByLetter, .int 0, .ref q_minors, .ref q_knownPower])), (q_knownPower, .inr (1, [.ref q_knownPower_rest, .ref q_knownPower_shares, .int m_1]))] H := hP
  replace hD : va_D A [(q_this, .inr (3, [.ref q_exponents, .int x_count, .ref q_byElement, .ref q_byLetter, .ref q_hullByLetter, .int 0, .ref q_minors, .ref q_knownPower])), (q_knownPower, .inr (1, [.ref q_knownPower_rest, .ref q_knownPower_shares, .int m_1]))] := hD
  exact W.vret hx hb hr (fun t ht hW => ⟨⟨(0, m_1), rfl, hw, by rw [ht]; exact hP, va_K.moved hW.alike hK, hD⟩, hS.F ht⟩) hS.2.2 d_SR_forgetAnswers_12
set_option maxHeartbeats 4000000 in
set_option maxRecDepth 100000 in
theorem go_SR_forgetAnswers {p : Program} {l : Launch} {e : Env} {R : Room} {s : State} {m : MethodId} {args : Array Value} {below : List Frame} {meth : Method} {c : Code} {H : Heap} {locs : List Loc} {cells slots : Nat} {Q : State → Prop} {cc : ByteArray} {nL : Nat} {Ts : List Cond} {own : String} {index : Nat} {A0 : Nat → Prop} {H0 : Heap} {dC : Nat → ClassId} {dI : Nat → Nat → Nat} {ws wr : va_W} {tys : List (ClassId × FieldType)} {q_this q_exponents q_byElement q_byLetter q_hullByLetter q_minors q_knownPower q_knownPower_rest q_knownPower_shares : Nat} {x_count : Int32} {x_settled : Int32} {x_knownPower_known : Int32}  {post : Int32 → Int32 → Prop} (S : CallFix p m c cc nL s args Ts own) (cw : CallW R s args own "StructureRows" index y_SR_forgetAnswers b_SR_forgetAnswers 1 none (zz_w y_SR_forgetAnswers b_SR_forgetAnswers 1 none) rm_SR_forgetAnswers 0 0 0) (hK : va_K (dC, dI) zz_cl tys s) (hP : va_P (dC, dI) zz_cl ws H) (hD : va_D A0 ws) (hS : va_S A0 H0 H locs) (hA : ∀ q, H0.size ≤ q → A0 q) (isC isR kt : List Nat) (h1 : isC.filterMap (fun i => ws[i]?) = [(q_this, .inr (3, [.ref q_exponents, .int x_count, .ref q_byElement, .ref q_byLetter, .ref q_hullByLetter, .int x_settled, .ref q_minors, .ref q_knownPower])), (q_knownPower, .inr (1, [.ref q_knownPower_rest, .ref q_knownPower_shares, .int x_knownPower_known]))]) (h2 : isC.map (fun i => ws[i]?) = ([(q_this, .inr (3, [.ref q_exponents, .int x_count, .ref q_byElement, .ref q_byLetter, .ref q_hullByLetter, .int x_settled, .ref q_minors, .ref q_knownPower])), (q_knownPower, .inr (1, [.ref q_knownPower_rest, .ref q_knownPower_shares, .int x_knownPower_known]))] : va_W).map some) (h3 : va_nd isC = true) (h4 : isR.map (fun i => ws[i]?) = wr.map some) (h5 : va_nd isR = true) (h6 : ∀ i ∈ isR, i ∉ isC) (h7 : kt.filterMap (fun i => tys[i]?) = []) (hw : wp_SR_forgetAnswers x_count x_settled x_knownPower_known post) {pc : Nat} {ls : Array Slot} {rest : List Value} (hsize : ls.size = nL) (hrest : (rest.map fun v => v.category).sum ≤ 8) (hdg : decode cc pc = .ok (.invokevirtual index, 3)) (hf : cells + 0 ≤ R.cells ∧ slots + 0 ≤ R.slots) (kk : ∀ (m0 : Int32) (m1 : Int32) (H1 : Heap) (locs1 : List Loc), post m0 m1 → va_P (dC, dI) zz_cl (wr ++ [(q_this, .inr (3, [.ref q_exponents, .int x_count, .ref q_byElement, .ref q_byLetter, .ref q_hullByLetter, .int m0, .ref q_minors, .ref q_knownPower])), (q_knownPower, .inr (1, [.ref q_knownPower_rest, .ref q_knownPower_shares, .int m1]))]) H1 → va_D A0 (wr ++ [(q_this, .inr (3, [.ref q_exponents, .int x_count, .ref q_byElement, .ref q_byLetter, .ref q_hullByLetter, .int m0, .ref q_minors, .ref q_knownPower])), (q_knownPower, .inr (1, [.ref q_knownPower_rest, .ref q_knownPower_shares, .int m1]))]) → va_S A0 H0 H1 locs1 → W p l e R s m args below meth c H1 locs1 (cells + 0) (slots + 0) Q (F0 m (pc + 3) ls rest)) : W p l e R s m args below meth c H locs cells slots Q (F0 m pc ls (.ref q_this :: rest)) := by
  have hPc := hP.sub (ws' := [(q_this, .inr (3, [.ref q_exponents, .int x_count, .ref q_byElement, .ref q_byLetter, .ref q_hullByLetter, .int x_settled, .ref q_minors, .ref q_knownPower])), (q_knownPower, .inr (1, [.ref q_knownPower_rest, .ref q_knownPower_shares, .int x_knownPower_known]))]) isC h1
  have hDc := hD.sub (ws' := [(q_this, .inr (3, [.ref q_exponents, .int x_count, .ref q_byElement, .ref q_byLetter, .ref q_hullByLetter, .int x_settled, .ref q_minors, .ref q_knownPower])), (q_knownPower, .inr (1, [.ref q_knownPower_rest, .ref q_knownPower_shares, .int x_knownPower_known]))]) isC h3 h2
  have hKc := hK.sub (tys' := []) kt h7
  have hFc := va_free (wc := [(q_this, .inr (3, [.ref q_exponents, .int x_count, .ref q_byElement, .ref q_byLetter, .ref q_hullByLetter, .int x_settled, .ref q_minors, .ref q_knownPower])), (q_knownPower, .inr (1, [.ref q_knownPower_rest, .ref q_knownPower_shares, .int x_knownPower_known]))]) hD hS hA isC h2
  refine va_callv (va_runV (As := []) (rest := rest) S (c_SR_forgetAnswers l dC dI q_this q_exponents q_byElement q_byLetter q_hullByLetter q_minors q_knownPower q_knownPower_rest q_knownPower_shares H.size x_count x_settled x_knownPower_known post hw) cw ⟨zz_blind, va_recv hKc hPc (ci := 3) (q0 := 0) rfl rfl, fun U hU hW => ⟨rfl, by rw [hU], by rw [hU]; exact hPc, va_K.moved hW.alike hKc, hDc.weaken (fun _ _ _ _ => trivial)⟩⟩ rfl rfl hsize rfl (lv_room hrest) hdg hf) hS (fun q _ h => hFc q h) hFc (fun u t H1 locs ht hvm hw hB hz1 hk1 hS => ?_)
  obtain ⟨hP1, hK1, hD1⟩ := hB
  rw [ht] at hP1
  obtain ⟨hP2, hD2⟩ := va_join (wr := wr) (w1 := [(q_this, .inr (3, [.ref q_exponents, .int x_count, .ref q_byElement, .ref q_byLetter, .ref q_hullByLetter, .int u.1, .ref q_minors, .ref q_knownPower])), (q_knownPower, .inr (1, [.ref q_knownPower_rest, .ref q_knownPower_shares, .int u.2]))]) hP hD isC isR h2 h4 h5 h6 hk1 hFc hP1 hD1
  exact kk u.1 u.2 H1 locs hw hP2 hD2 hS
abbrev rm_SR_clear : Room := { frames := 2, cells := 0, slots := 0, locals := 40 }
abbrev qz_SR_clear (dC : Nat → ClassId) (dI : Nat → Nat → Nat) (q_this q_exponents q_byElement q_byLetter q_hullByLetter q_minors q_knownPower q_knownPower_rest q_knownPower_shares : Nat)  (post : Int32 → Int32 → Int32 → Prop) (A : Nat → Prop) : Array Value → State → Outcome → State → Prop := va_Qv (fun (u : Int32 × Int32 × Int32) => post u.1 u.2.1 u.2.2) (fun (u : Int32 × Int32 × Int32) (t : State) => va_P (dC, dI) zz_cl [(q_this, .inr (3, [.ref q_exponents, .int u.1, .ref q_byElement, .ref q_byLetter, .ref q_hullByLetter, .int u.2.1, .ref q_minors, .ref q_knownPower])), (q_knownPower, .inr (1, [.ref q_knownPower_rest, .ref q_knownPower_shares, .int u.2.2]))] t.heap ∧ va_K (dC, dI) zz_cl [] t ∧ va_D A [(q_this, .inr (3, [.ref q_exponents, .int u.1, .ref q_byElement, .ref q_byLetter, .ref q_hullByLetter, .int u.2.1, .ref q_minors, .ref q_knownPower])), (q_knownPower, .inr (1, [.ref q_knownPower_rest, .ref q_knownPower_shares, .int u.2.2]))]) A
def cx_SR_clear (p : Program) (s : State) (m : MethodId) (args : Array Value) (meth : Method) (c : Code) : Prop := p.tables.exec = Jvm.exec ∧ c.code = b_SR_clear ∧ meth.sig.returnType = none ∧ c.maxLocals = 1 ∧ s.vm.findClass "StructureRows" = some m.cls ∧ (∀ w ∈ zz_GW, w.before args s = true) ∧ meth.locks = false
def wp_SR_clear (x_count : Int32) (x_settled : Int32) (x_knownPower_known : Int32)  (post : Int32 → Int32 → Int32 → Prop) : Prop := wp_SR_forgetAnswers 0 x_settled x_knownPower_known (fun (m_1 : Int32) (m_2 : Int32) => (post 0 m_1 m_2))
set_option maxHeartbeats 4000000 in
set_option maxRecDepth 100000 in
theorem c_SR_clear (l : Launch) (dC : Nat → ClassId) (dI : Nat → Nat → Nat) (q_this q_exponents q_byElement q_byLetter q_hullByLetter q_minors q_knownPower q_knownPower_rest q_knownPower_shares : Nat) (sz : Nat) (x_count : Int32) (x_settled : Int32) (x_knownPower_known : Int32)  (post : Int32 → Int32 → Int32 → Prop) (hw : wp_SR_clear x_count x_settled x_knownPower_known post) : Met l y_SR_clear (zz_w y_SR_clear b_SR_clear 1 none) rm_SR_clear (va_Pc [.ref q_this] (fun U => U.heap.size = sz ∧ va_P (dC, dI) zz_cl [(q_this, .inr (3, [.ref q_exponents, .int x_count, .ref q_byElement, .ref q_byLetter, .ref q_hullByLetter, .int x_settled, .ref q_minors, .ref q_knownPower])), (q_knownPower, .inr (1, [.ref q_knownPower_rest, .ref q_knownPower_shares, .int x_knownPower_known]))] U.heap ∧ va_K (dC, dI) zz_cl [] U ∧ va_D (fun _ => True) [(q_this, .inr (3, [.ref q_exponents, .int x_count, .ref q_byElement, .ref q_byLetter, .ref q_hullByLetter, .int x_settled, .ref q_minors, .ref q_knownPower])), (q_knownPower, .inr (1, [.ref q_knownPower_rest, .ref q_knownPower_shares, .int x_knownPower_known]))])) (qz_SR_clear dC dI q_this q_exponents q_byElement q_byLetter q_hullByLetter q_minors q_knownPower q_knownPower_rest q_knownPower_shares post (va_A [(q_this, .inr (3, [.ref q_exponents, .int x_count, .ref q_byElement, .ref q_byLetter, .ref q_hullByLetter, .int x_settled, .ref q_minors, .ref q_knownPower])), (q_knownPower, .inr (1, [.ref q_knownPower_rest, .ref q_knownPower_shares, .int x_knownPower_known]))] sz)) 0 0 (va_A [(q_this, .inr (3, [.ref q_exponents, .int x_count, .ref q_byElement, .ref q_byLetter, .ref q_hullByLetter, .int x_settled, .ref q_minors, .ref q_knownPower])), (q_knownPower, .inr (1, [.ref q_knownPower_rest, .ref q_knownPower_shares, .int x_knownPower_known]))] sz) := by
  refine Met.ofW (cc := b_SR_clear) (maxL := 1) (ret := none) (by decide) rfl ?_
  intro p e s m args below meth c s₁ B hml hv
  obtain ⟨rfl, hsz, hP, hK, hD0⟩ := hv
  have hx := B.exec
  have hb := B.bytes
  have hr := B.returns
  have hts0 := atoms_spec (ws := (zz_w y_SR_clear b_SR_clear 1 none)) B.pre
  have hts : ∀ w ∈ zz_GW, w.before _ s = true := fun w h => hts0 w (List.mem_cons_of_mem _ h)
  clear hts0
  have hown : s.vm.findClass "StructureRows" = some m.cls := findClass_of_methodNamed B.named
  have hlocks := B.notSynchronized
  have C0 : cx_SR_clear p s m _ meth c := ⟨hx, hb, hr, hml, hown, hts, hlocks⟩
  subst hsz
  have hD := hD0.self (sz := s.heap.size)
  generalize hAe : va_A [(q_this, .inr (3, [.ref q_exponents, .int x_count, .ref q_byElement, .ref q_byLetter, .ref q_hullByLetter, .int x_settled, .ref q_minors, .ref q_knownPower])), (q_knownPower, .inr (1, [.ref q_knownPower_rest, .ref q_knownPower_shares, .int x_knownPower_known]))] s.heap.size = A at hD ⊢
  have hA : ∀ q : Nat, s.heap.size ≤ q → A q := fun q h => by rw [← hAe]; exact Or.inr h
  clear hAe hD0
  have hS : va_S A s.heap s.heap [] := va_S.rf
  have hl := lv_entry ([.ref q_this]) (n := 1) (Nat.le_of_ble_eq_true rfl)
  rw [lg_entry_eq]
  generalize (lg_sl ([.ref q_this]) ++ List.replicate (1 - (lg_sl ([.ref q_this])).length) Slot.unset).toArray = ls at hl ⊢
  replace hl : lv_has ls 1 [(0, .ref q_this)] := hl
  unfold wp_SR_clear at hw
  change W p l e rm_SR_clear s m _ below meth c s.heap [] 0 0 _ _
  refine lv_aload_n hx hb d_SR_clear_0 rfl (lv_at hl 0 rfl) ?_
  refine lv_iconst (v := 0) hx hb d_SR_clear_1 (by decide) ?_
  refine va_put (D := (dC, dI)) (ci := 3) (v := .int 0) (ty := .int) (C := "StructureRows") (T := T_SR) (N := 8) hx hb hts in_SR ty_SR tyok_SR nm_SR hown hK hP hD hS 0 rfl rfl 1 (by decide) (hts _ tw_106) (fun _ h9 => h9) rfl (by decide +kernel) rfl rfl (Nat.le_of_ble_eq_true rfl) d_SR_clear_2 (fun H locs hP hD hS => ?_)
  replace hP : va_P (dC, dI) zz_cl [(q_this, .inr (3, [.ref q_exponents, .int 0, .ref q_byElement, .ref q_byLetter, .ref q_hullByLetter, .int x_settled, .ref q_minors, .ref q_knownPower])), (q_knownPower, .inr (1, [.ref q_knownPower_rest, .ref q_knownPower_shares, .int x_knownPower_known]))] H := hP
  replace hD : va_D A [(q_this, .inr (3, [.ref q_exponents, .int 0, .ref q_byElement, .ref q_byLetter, .ref q_hullByLetter, .int x_settled, .ref q_minors, .ref q_knownPower])), (q_knownPower, .inr (1, [.ref q_knownPower_rest, .ref q_knownPower_shares, .int x_knownPower_known]))] := hD
  refine lv_aload_n hx hb d_SR_clear_5 rfl (lv_at hl 0 rfl) ?_
  refine go_SR_forgetAnswers (wr := []) ⟨hx, hb, hml, hown, hts⟩ (zz_cwV 0 hts tw_219 tw_216 tw_218 tw_9 tw_31 ⟨by decide, by decide, by decide +kernel⟩ ⟨Nat.le_of_ble_eq_true rfl, Nat.le_of_ble_eq_true rfl⟩) hK hP hD hS hA [0, 1] [] [] rfl rfl (by decide) rfl (by decide) (by decide) rfl hw hl.1 (Nat.le_of_ble_eq_true rfl) d_SR_clear_6 ⟨Nat.le_of_ble_eq_true rfl, Nat.le_of_ble_eq_true rfl⟩ (fun m_1 m_2 H locs hw hP hD hS => ?_)
  replace hP : va_P (dC, dI) zz_cl [(q_this, .inr (3, [.ref q_exponents, .int 0, .ref q_byElement, .ref q_byLetter, .ref q_hullByLetter, .int m_1, .ref q_minors, .ref q_knownPower])), (q_knownPower, .inr (1, [.ref q_knownPower_rest, .ref q_knownPower_shares, .int m_2]))] H := hP
  replace hD : va_D A [(q_this, .inr (3, [.ref q_exponents, .int 0, .ref q_byElement, .ref q_byLetter, .ref q_hullByLetter, .int m_1, .ref q_minors, .ref q_knownPower])), (q_knownPower, .inr (1, [.ref q_knownPower_rest, .ref q_knownPower_shares, .int m_2]))] := hD
  exact W.vret hx hb hr (fun t ht hW => ⟨⟨(0, m_1, m_2), rfl, hw, by rw [ht]; exact hP, va_K.moved hW.alike hK, hD⟩, hS.F ht⟩) hS.2.2 d_SR_clear_9
set_option maxHeartbeats 4000000 in
set_option maxRecDepth 100000 in
theorem go_SR_clear {p : Program} {l : Launch} {e : Env} {R : Room} {s : State} {m : MethodId} {args : Array Value} {below : List Frame} {meth : Method} {c : Code} {H : Heap} {locs : List Loc} {cells slots : Nat} {Q : State → Prop} {cc : ByteArray} {nL : Nat} {Ts : List Cond} {own : String} {index : Nat} {A0 : Nat → Prop} {H0 : Heap} {dC : Nat → ClassId} {dI : Nat → Nat → Nat} {ws wr : va_W} {tys : List (ClassId × FieldType)} {q_this q_exponents q_byElement q_byLetter q_hullByLetter q_minors q_knownPower q_knownPower_rest q_knownPower_shares : Nat} {x_count : Int32} {x_settled : Int32} {x_knownPower_known : Int32}  {post : Int32 → Int32 → Int32 → Prop} (S : CallFix p m c cc nL s args Ts own) (cw : CallW R s args own "StructureRows" index y_SR_clear b_SR_clear 1 none (zz_w y_SR_clear b_SR_clear 1 none) rm_SR_clear 0 0 0) (hK : va_K (dC, dI) zz_cl tys s) (hP : va_P (dC, dI) zz_cl ws H) (hD : va_D A0 ws) (hS : va_S A0 H0 H locs) (hA : ∀ q, H0.size ≤ q → A0 q) (isC isR kt : List Nat) (h1 : isC.filterMap (fun i => ws[i]?) = [(q_this, .inr (3, [.ref q_exponents, .int x_count, .ref q_byElement, .ref q_byLetter, .ref q_hullByLetter, .int x_settled, .ref q_minors, .ref q_knownPower])), (q_knownPower, .inr (1, [.ref q_knownPower_rest, .ref q_knownPower_shares, .int x_knownPower_known]))]) (h2 : isC.map (fun i => ws[i]?) = ([(q_this, .inr (3, [.ref q_exponents, .int x_count, .ref q_byElement, .ref q_byLetter, .ref q_hullByLetter, .int x_settled, .ref q_minors, .ref q_knownPower])), (q_knownPower, .inr (1, [.ref q_knownPower_rest, .ref q_knownPower_shares, .int x_knownPower_known]))] : va_W).map some) (h3 : va_nd isC = true) (h4 : isR.map (fun i => ws[i]?) = wr.map some) (h5 : va_nd isR = true) (h6 : ∀ i ∈ isR, i ∉ isC) (h7 : kt.filterMap (fun i => tys[i]?) = []) (hw : wp_SR_clear x_count x_settled x_knownPower_known post) {pc : Nat} {ls : Array Slot} {rest : List Value} (hsize : ls.size = nL) (hrest : (rest.map fun v => v.category).sum ≤ 8) (hdg : decode cc pc = .ok (.invokevirtual index, 3)) (hf : cells + 0 ≤ R.cells ∧ slots + 0 ≤ R.slots) (kk : ∀ (m0 : Int32) (m1 : Int32) (m2 : Int32) (H1 : Heap) (locs1 : List Loc), post m0 m1 m2 → va_P (dC, dI) zz_cl (wr ++ [(q_this, .inr (3, [.ref q_exponents, .int m0, .ref q_byElement, .ref q_byLetter, .ref q_hullByLetter, .int m1, .ref q_minors, .ref q_knownPower])), (q_knownPower, .inr (1, [.ref q_knownPower_rest, .ref q_knownPower_shares, .int m2]))]) H1 → va_D A0 (wr ++ [(q_this, .inr (3, [.ref q_exponents, .int m0, .ref q_byElement, .ref q_byLetter, .ref q_hullByLetter, .int m1, .ref q_minors, .ref q_knownPower])), (q_knownPower, .inr (1, [.ref q_knownPower_rest, .ref q_knownPower_shares, .int m2]))]) → va_S A0 H0 H1 locs1 → W p l e R s m args below meth c H1 locs1 (cells + 0) (slots + 0) Q (F0 m (pc + 3) ls rest)) : W p l e R s m args below meth c H locs cells slots Q (F0 m pc ls (.ref q_this :: rest)) := by
  have hPc := hP.sub (ws' := [(q_this, .inr (3, [.ref q_exponents, .int x_count, .ref q_byElement, .ref q_byLetter, .ref q_hullByLetter, .int x_settled, .ref q_minors, .ref q_knownPower])), (q_knownPower, .inr (1, [.ref q_knownPower_rest, .ref q_knownPower_shares, .int x_knownPower_known]))]) isC h1
  have hDc := hD.sub (ws' := [(q_this, .inr (3, [.ref q_exponents, .int x_count, .ref q_byElement, .ref q_byLetter, .ref q_hullByLetter, .int x_settled, .ref q_minors, .ref q_knownPower])), (q_knownPower, .inr (1, [.ref q_knownPower_rest, .ref q_knownPower_shares, .int x_knownPower_known]))]) isC h3 h2
  have hKc := hK.sub (tys' := []) kt h7
  have hFc := va_free (wc := [(q_this, .inr (3, [.ref q_exponents, .int x_count, .ref q_byElement, .ref q_byLetter, .ref q_hullByLetter, .int x_settled, .ref q_minors, .ref q_knownPower])), (q_knownPower, .inr (1, [.ref q_knownPower_rest, .ref q_knownPower_shares, .int x_knownPower_known]))]) hD hS hA isC h2
  refine va_callv (va_runV (As := []) (rest := rest) S (c_SR_clear l dC dI q_this q_exponents q_byElement q_byLetter q_hullByLetter q_minors q_knownPower q_knownPower_rest q_knownPower_shares H.size x_count x_settled x_knownPower_known post hw) cw ⟨zz_blind, va_recv hKc hPc (ci := 3) (q0 := 0) rfl rfl, fun U hU hW => ⟨rfl, by rw [hU], by rw [hU]; exact hPc, va_K.moved hW.alike hKc, hDc.weaken (fun _ _ _ _ => trivial)⟩⟩ rfl rfl hsize rfl (lv_room hrest) hdg hf) hS (fun q _ h => hFc q h) hFc (fun u t H1 locs ht hvm hw hB hz1 hk1 hS => ?_)
  obtain ⟨hP1, hK1, hD1⟩ := hB
  rw [ht] at hP1
  obtain ⟨hP2, hD2⟩ := va_join (wr := wr) (w1 := [(q_this, .inr (3, [.ref q_exponents, .int u.1, .ref q_byElement, .ref q_byLetter, .ref q_hullByLetter, .int u.2.1, .ref q_minors, .ref q_knownPower])), (q_knownPower, .inr (1, [.ref q_knownPower_rest, .ref q_knownPower_shares, .int u.2.2]))]) hP hD isC isR h2 h4 h5 h6 hk1 hFc hP1 hD1
  exact kk u.1 u.2.1 u.2.2 H1 locs hw hP2 hD2 hS
abbrev rm_SR_requireBelow : Room := { frames := 0, cells := 0, slots := 0, locals := 0 }
abbrev qz_SR_requireBelow (dC : Nat → ClassId) (dI : Nat → Nat → Nat)  (post : Prop) (A : Nat → Prop) : Array Value → State → Outcome → State → Prop := va_Qv (fun (_ : Unit) => post) (fun (u : Unit) (t : State) => va_P (dC, dI) zz_cl [] t.heap ∧ va_K (dC, dI) zz_cl [] t ∧ va_D A []) A
def cx_SR_requireBelow (p : Program) (s : State) (m : MethodId) (args : Array Value) (meth : Method) (c : Code) : Prop := p.tables.exec = Jvm.exec ∧ c.code = b_SR_requireBelow ∧ meth.sig.returnType = none ∧ c.maxLocals = 2 ∧ s.vm.findClass "StructureRows" = some m.cls ∧ (∀ w ∈ zz_GW, w.before args s = true) ∧ meth.locks = false
def wp_SR_requireBelow_9  (post : Prop)   : Prop := False
set_option maxHeartbeats 4000000 in
set_option maxRecDepth 100000 in
theorem k_SR_requireBelow_9 {p : Program} {l : Launch} {e : Env} {s : State} {m : MethodId} {args : Array Value} {below : List Frame} {meth : Method} {c : Code} {dC : Nat → ClassId} {dI : Nat → Nat → Nat} {A : Nat → Prop}  {post : Prop}  (C0 : cx_SR_requireBelow p s m args meth c) (hA : ∀ q : Nat, s.heap.size ≤ q → A q) (hK : va_K (dC, dI) zz_cl [] s)  (hw : wp_SR_requireBelow_9 post) {H : Heap} {locs : List Loc} {ls : Array Slot} (hP : va_P (dC, dI) zz_cl [] H) (hD : va_D A []) (hS : va_S A s.heap H locs) (hl : lv_has ls 2 []) : W p l e rm_SR_requireBelow s m args below meth c H locs 0 0 (MQ below (qz_SR_requireBelow dC dI post A) args s 0 0 A) (F0 m 9 ls []) := by
  have C1 := C0
  obtain ⟨hx, hb, hr, hml, hown, hts, hlocks⟩ := C1
  unfold wp_SR_requireBelow_9 at hw
  exact hw.elim
def wp_SR_requireBelow  (a_0 : Int32) (a_1 : Int32) (post : Prop) : Prop := (a_0 < 0 → (wp_SR_requireBelow_9 post)) ∧ (¬ a_0 < 0 → ((a_0 < a_1 → (post)) ∧ (¬ a_0 < a_1 → (wp_SR_requireBelow_9 post))))
set_option maxHeartbeats 4000000 in
set_option maxRecDepth 100000 in
theorem c_SR_requireBelow (l : Launch) (dC : Nat → ClassId) (dI : Nat → Nat → Nat) (sz : Nat)  (a_0 : Int32) (a_1 : Int32) (post : Prop) (hw : wp_SR_requireBelow a_0 a_1 post) : Met l y_SR_requireBelow (zz_w y_SR_requireBelow b_SR_requireBelow 2 none) rm_SR_requireBelow (va_Pc [.int a_0, .int a_1] (fun U => U.heap.size = sz ∧ va_P (dC, dI) zz_cl [] U.heap ∧ va_K (dC, dI) zz_cl [] U ∧ va_D (fun _ => True) [])) (qz_SR_requireBelow dC dI post (va_A [] sz)) 0 0 (va_A [] sz) := by
  refine Met.ofW (cc := b_SR_requireBelow) (maxL := 2) (ret := none) (by decide) rfl ?_
  intro p e s m args below meth c s₁ B hml hv
  obtain ⟨rfl, hsz, hP, hK, hD0⟩ := hv
  have hx := B.exec
  have hb := B.bytes
  have hr := B.returns
  have hts0 := atoms_spec (ws := (zz_w y_SR_requireBelow b_SR_requireBelow 2 none)) B.pre
  have hts : ∀ w ∈ zz_GW, w.before _ s = true := fun w h => hts0 w (List.mem_cons_of_mem _ h)
  clear hts0
  have hown : s.vm.findClass "StructureRows" = some m.cls := findClass_of_methodNamed B.named
  have hlocks := B.notSynchronized
  have C0 : cx_SR_requireBelow p s m _ meth c := ⟨hx, hb, hr, hml, hown, hts, hlocks⟩
  subst hsz
  have hD := hD0.self (sz := s.heap.size)
  generalize hAe : va_A [] s.heap.size = A at hD ⊢
  have hA : ∀ q : Nat, s.heap.size ≤ q → A q := fun q h => by rw [← hAe]; exact Or.inr h
  clear hAe hD0
  have hS : va_S A s.heap s.heap [] := va_S.rf
  have hl := lv_entry ([.int a_0, .int a_1]) (n := 2) (Nat.le_of_ble_eq_true rfl)
  rw [lg_entry_eq]
  generalize (lg_sl ([.int a_0, .int a_1]) ++ List.replicate (2 - (lg_sl ([.int a_0, .int a_1])).length) Slot.unset).toArray = ls at hl ⊢
  replace hl : lv_has ls 2 [(0, .int a_0), (1, .int a_1)] := hl
  unfold wp_SR_requireBelow at hw
  change W p l e rm_SR_requireBelow s m _ below meth c s.heap [] 0 0 _ _
  refine lv_iload_n hx hb d_SR_requireBelow_0 rfl (lv_at hl 0 rfl) ?_
  refine lv_if_lt (tgt := 9) hx hb d_SR_requireBelow_1 (by decide) (fun h_1 => ?_) (fun h_1 => ?_)
  · replace hw := hw.1 h_1
    exact k_SR_requireBelow_9 C0 hA hK hw hP hD hS (lv_sub hl [] rfl)
  · replace hw := hw.2 h_1
    refine lv_iload_n hx hb d_SR_requireBelow_4 rfl (lv_at hl 0 rfl) ?_
    refine lv_iload_n hx hb d_SR_requireBelow_5 rfl (lv_at hl 1 rfl) ?_
    refine lv_icmp_lt (tgt := 19) hx hb d_SR_requireBelow_6 (by decide) (fun h_2 => ?_) (fun h_2 => ?_)
    · replace hw := hw.1 h_2
      exact W.vret hx hb hr (fun t ht hW => ⟨⟨(), rfl, hw, by rw [ht]; exact hP, va_K.moved hW.alike hK, hD⟩, hS.F ht⟩) hS.2.2 d_SR_requireBelow_19
    · replace hw := hw.2 h_2
      exact k_SR_requireBelow_9 C0 hA hK hw hP hD hS (lv_sub hl [] rfl)
set_option maxHeartbeats 4000000 in
set_option maxRecDepth 100000 in
theorem go_SR_requireBelow {p : Program} {l : Launch} {e : Env} {R : Room} {s : State} {m : MethodId} {args : Array Value} {below : List Frame} {meth : Method} {c : Code} {H : Heap} {locs : List Loc} {cells slots : Nat} {Q : State → Prop} {cc : ByteArray} {nL : Nat} {Ts : List Cond} {own : String} {index : Nat} {A0 : Nat → Prop} {H0 : Heap} {dC : Nat → ClassId} {dI : Nat → Nat → Nat} {ws wr : va_W} {tys : List (ClassId × FieldType)}  {a_0 : Int32} {a_1 : Int32} {post : Prop} (S : CallFix p m c cc nL s args Ts own) (cw : CallB R s args own index y_SR_requireBelow b_SR_requireBelow 2 none (zz_w y_SR_requireBelow b_SR_requireBelow 2 none) rm_SR_requireBelow 0 0 2 ∧ (Cond.static y_SR_requireBelow).before args s = true) (hK : va_K (dC, dI) zz_cl tys s) (hP : va_P (dC, dI) zz_cl ws H) (hD : va_D A0 ws) (hS : va_S A0 H0 H locs) (hA : ∀ q, H0.size ≤ q → A0 q) (isC isR kt : List Nat) (h1 : isC.filterMap (fun i => ws[i]?) = []) (h2 : isC.map (fun i => ws[i]?) = ([] : va_W).map some) (h3 : va_nd isC = true) (h4 : isR.map (fun i => ws[i]?) = wr.map some) (h5 : va_nd isR = true) (h6 : ∀ i ∈ isR, i ∉ isC) (h7 : kt.filterMap (fun i => tys[i]?) = []) (hw : wp_SR_requireBelow a_0 a_1 post) {pc : Nat} {ls : Array Slot} {rest : List Value} (hsize : ls.size = nL) (hrest : (rest.map fun v => v.category).sum ≤ 8) (hdg : decode cc pc = .ok (.invokestatic index, 3)) (hf : cells + 0 ≤ R.cells ∧ slots + 0 ≤ R.slots) (kk : ∀  (H1 : Heap) (locs1 : List Loc), post → va_P (dC, dI) zz_cl (wr ++ []) H1 → va_D A0 (wr ++ []) → va_S A0 H0 H1 locs1 → W p l e R s m args below meth c H1 locs1 (cells + 0) (slots + 0) Q (F0 m (pc + 3) ls rest)) : W p l e R s m args below meth c H locs cells slots Q (F0 m pc ls (.int a_1 :: .int a_0 :: rest)) := by
  have hPc := hP.sub (ws' := []) isC h1
  have hDc := hD.sub (ws' := []) isC h3 h2
  have hKc := hK.sub (tys' := []) kt h7
  have hFc := va_free (wc := []) hD hS hA isC h2
  refine va_callv (va_runS (As := [.int a_0, .int a_1]) (rest := rest) S (c_SR_requireBelow l dC dI H.size a_0 a_1 post hw) cw ⟨zz_blind, fun U hU hW => ⟨rfl, by rw [hU], by rw [hU]; exact hPc, va_K.moved hW.alike hKc, hDc.weaken (fun _ _ _ _ => trivial)⟩⟩ rfl rfl hsize rfl (lv_room hrest) hdg hf) hS (fun q _ h => hFc q h) hFc (fun u t H1 locs ht hvm hw hB hz1 hk1 hS => ?_)
  obtain ⟨hP1, hK1, hD1⟩ := hB
  rw [ht] at hP1
  obtain ⟨hP2, hD2⟩ := va_join (wr := wr) (w1 := []) hP hD isC isR h2 h4 h5 h6 hk1 hFc hP1 hD1
  exact kk  H1 locs hw hP2 hD2 hS
abbrev rm_SR_requireBelowx : Room := { frames := 6, cells := 1, slots := 6, locals := 100 }
abbrev xz_SR_requireBelowx (dC : Nat → ClassId) (dI : Nat → Nat → Nat)  (px : String → Prop) (A : Nat → Prop) : String → State → State → Prop := vx_X (fun (u : String × (Unit)) => px u.1) (fun (E9 : String) (u : String × (Unit)) (t : State) => u.1 = E9 ∧ va_P (dC, dI) zz_cl [] t.heap ∧ va_K (dC, dI) zz_cl [] t ∧ va_D A []) A
def cx_SR_requireBelowx (p : Program) (l : Launch) (s : State) (m : MethodId) (args : Array Value) (meth : Method) (c : Code) : Prop := p.tables.exec = Jvm.exec ∧ c.code = b_SR_requireBelow ∧ meth.sig.returnType = none ∧ c.maxLocals = 2 ∧ s.vm.findClass "StructureRows" = some m.cls ∧ (∀ w ∈ zz_GW, w.before args s = true) ∧ meth.locks = false ∧ (∀ x ∈ c.exceptionTable.toList, False) ∧ l.stackTraces = false
def wp_SR_requireBelowx_9  (px : String → Prop)   : Prop := px "java/lang/IndexOutOfBoundsException"
set_option maxHeartbeats 4000000 in
set_option maxRecDepth 100000 in
theorem k_SR_requireBelowx_9 {p : Program} {l : Launch} {e : Env} {s : State} {m : MethodId} {args : Array Value} {below : List Frame} {meth : Method} {c : Code} {dC : Nat → ClassId} {dI : Nat → Nat → Nat} {A : Nat → Prop} {sa : Nat → Nat}  {px : String → Prop}  (C0 : cx_SR_requireBelowx p l s m args meth c) (hX : zz_X sa A s) (hA : ∀ q : Nat, s.heap.size ≤ q → A q) (hK : va_K (dC, dI) zz_cl [] s)  (hw : wp_SR_requireBelowx_9 px) {H : Heap} {locs : List Loc} {ls : Array Slot} (hP : va_P (dC, dI) zz_cl [] H) (hD : va_D A []) (hS : va_S A s.heap H locs) (hl : lv_has ls 2 []) : W p l e rm_SR_requireBelowx s m args below meth c H locs 0 0 (vx_MQ below (va_Qv (fun (_ : Unit) => False) (fun _ _ => True) A) (xz_SR_requireBelowx dC dI px A) args s 1 6 A) (F0 m 9 ls []) := by
  have C1 := C0
  obtain ⟨hx, hb, hr, hml, hown, hts, hlocks, hne, hl9⟩ := C1
  unfold wp_SR_requireBelowx_9 at hw
  exact vx_throwS (own := "StructureRows") (cls := "java/lang/IndexOutOfBoundsException") (names := zz_sup) hx hb hl9 hown (by decide +kernel) (by decide +kernel) (hts _ tw_316) (hts _ tw_40) hX.2.2.2.1.2.1 (zz_hat140 hts hX) (by decide +kernel) hX.2.2.2.2.2.1 hX.2.2.2.2.2.2 hS (hl.1.trans hml.symm) d_SR_requireBelow_9 d_SR_requireBelow_12 d_SR_requireBelow_13 d_SR_requireBelow_15 d_SR_requireBelow_18 (fun x hx => (hne x hx).elim) (Nat.le_of_ble_eq_true rfl) (Nat.le_of_ble_eq_true rfl) (Nat.le_of_ble_eq_true rfl) (Nat.le_of_ble_eq_true rfl) hlocks (fun t ha hsz9 hq9 => ⟨("java/lang/IndexOutOfBoundsException", ()), hw, ⟨rfl, va_P.kept hP (fun k q hk => hq9 q.1 (va_at.lt (hP k q hk))), va_K.moved ha hK, hD⟩, zz_F hS hsz9 hq9⟩) hS.2.2 (Nat.le_of_ble_eq_true rfl) (Nat.le_of_ble_eq_true rfl)
def wp_SR_requireBelowx  (a_0 : Int32) (a_1 : Int32) (px : String → Prop) : Prop := (a_0 < 0 → (wp_SR_requireBelowx_9 px)) ∧ (¬ a_0 < 0 → ((a_0 < a_1 → (False)) ∧ (¬ a_0 < a_1 → (wp_SR_requireBelowx_9 px))))
set_option maxHeartbeats 4000000 in
set_option maxRecDepth 100000 in
theorem c_SR_requireBelowx (l : Launch) (hl9 : l.stackTraces = false) (sa : Nat → Nat) (dC : Nat → ClassId) (dI : Nat → Nat → Nat) (sz : Nat)  (a_0 : Int32) (a_1 : Int32) (px : String → Prop) (hw : wp_SR_requireBelowx a_0 a_1 px) : vx_Met l y_SR_requireBelow (zz_w y_SR_requireBelow b_SR_requireBelow 2 none) rm_SR_requireBelowx (va_Pc [.int a_0, .int a_1] (fun U => U.heap.size = sz ∧ va_P (dC, dI) zz_cl [] U.heap ∧ va_K (dC, dI) zz_cl [] U ∧ va_D (fun _ => True) [] ∧ zz_X sa (va_A [] sz) U)) (va_Qv (fun (_ : Unit) => False) (fun _ _ => True) (va_A [] sz)) (xz_SR_requireBelowx dC dI px (va_A [] sz)) 1 6 (va_A [] sz) := by
  refine vx_ofW (cc := b_SR_requireBelow) (maxL := 2) (ret := none) (by decide) rfl ?_
  intro p e s m args below meth c s₁ B hml hne hv
  obtain ⟨rfl, hsz, hP, hK, hD0, hX⟩ := hv
  have hx := B.exec
  have hb := B.bytes
  have hr := B.returns
  have hts0 := atoms_spec (ws := (zz_w y_SR_requireBelow b_SR_requireBelow 2 none)) B.pre
  have hts : ∀ w ∈ zz_GW, w.before _ s = true := fun w h => hts0 w (List.mem_cons_of_mem _ h)
  clear hts0
  have hown : s.vm.findClass "StructureRows" = some m.cls := findClass_of_methodNamed B.named
  have hlocks := B.notSynchronized
  have C0 : cx_SR_requireBelowx p l s m _ meth c := ⟨hx, hb, hr, hml, hown, hts, hlocks, hne, hl9⟩
  subst hsz
  have hD := hD0.self (sz := s.heap.size)
  generalize hAe : va_A [] s.heap.size = A at hD hX ⊢
  have hA : ∀ q : Nat, s.heap.size ≤ q → A q := fun q h => by rw [← hAe]; exact Or.inr h
  clear hAe hD0
  have hS : va_S A s.heap s.heap [] := va_S.rf
  have hl := lv_entry ([.int a_0, .int a_1]) (n := 2) (Nat.le_of_ble_eq_true rfl)
  rw [lg_entry_eq]
  generalize (lg_sl ([.int a_0, .int a_1]) ++ List.replicate (2 - (lg_sl ([.int a_0, .int a_1])).length) Slot.unset).toArray = ls at hl ⊢
  replace hl : lv_has ls 2 [(0, .int a_0), (1, .int a_1)] := hl
  unfold wp_SR_requireBelowx at hw
  change W p l e rm_SR_requireBelowx s m _ below meth c s.heap [] 0 0 _ _
  refine lv_iload_n hx hb d_SR_requireBelow_0 rfl (lv_at hl 0 rfl) ?_
  refine lv_if_lt (tgt := 9) hx hb d_SR_requireBelow_1 (by decide) (fun h_1 => ?_) (fun h_1 => ?_)
  · replace hw := hw.1 h_1
    exact k_SR_requireBelowx_9 C0 hX hA hK hw hP hD hS (lv_sub hl [] rfl)
  · replace hw := hw.2 h_1
    refine lv_iload_n hx hb d_SR_requireBelow_4 rfl (lv_at hl 0 rfl) ?_
    refine lv_iload_n hx hb d_SR_requireBelow_5 rfl (lv_at hl 1 rfl) ?_
    refine lv_icmp_lt (tgt := 19) hx hb d_SR_requireBelow_6 (by decide) (fun h_2 => ?_) (fun h_2 => ?_)
    · replace hw := hw.1 h_2
      exact hw.elim
    · replace hw := hw.2 h_2
      exact k_SR_requireBelowx_9 C0 hX hA hK hw hP hD hS (lv_sub hl [] rfl)
set_option maxHeartbeats 4000000 in
set_option maxRecDepth 100000 in
theorem go_SR_requireBelowx {p : Program} {l : Launch} {e : Env} {R : Room} {s : State} {m : MethodId} {args : Array Value} {below : List Frame} {meth : Method} {c : Code} {H : Heap} {locs : List Loc} {cells slots : Nat} {Q : State → Prop} {cc : ByteArray} {nL : Nat} {Ts : List Cond} {own : String} {index : Nat} {A0 : Nat → Prop} {dC : Nat → ClassId} {dI : Nat → Nat → Nat} {ws wr : va_W} {tys : List (ClassId × FieldType)} {sa : Nat → Nat}  {a_0 : Int32} {a_1 : Int32} {px : String → Prop} (S : CallFix p m c cc nL s args Ts own) (cw : CallB R s args own index y_SR_requireBelow b_SR_requireBelow 2 none (zz_w y_SR_requireBelow b_SR_requireBelow 2 none) rm_SR_requireBelowx 1 6 2 ∧ (Cond.static y_SR_requireBelow).before args s = true) (hl9 : l.stackTraces = false) (hX : zz_X sa A0 s) (hK : va_K (dC, dI) zz_cl tys s) (hP : va_P (dC, dI) zz_cl ws H) (hD : va_D A0 ws) (hS : va_S A0 s.heap H locs) (hA : ∀ q, s.heap.size ≤ q → A0 q) (isC isR kt : List Nat) (h1 : isC.filterMap (fun i => ws[i]?) = []) (h2 : isC.map (fun i => ws[i]?) = ([] : va_W).map some) (h3 : va_nd isC = true) (h4 : isR.map (fun i => ws[i]?) = wr.map some) (h5 : va_nd isR = true) (h6 : ∀ i ∈ isR, i ∉ isC) (h7 : kt.filterMap (fun i => tys[i]?) = []) (hw : wp_SR_requireBelowx a_0 a_1 px) {pc : Nat} {ls : Array Slot} {rest : List Value} (hsize : ls.size = nL) (hrest : (rest.map fun v => v.category).sum ≤ 8) (hdg : decode cc pc = .ok (.invokestatic index, 3)) (hf : cells + 1 ≤ R.cells ∧ slots + 6 ≤ R.slots) (kx : ∀ (E9 : String) (ce : Cell) (q9 : Addr) (H1 : Heap) (locs1 : List Loc), px E9 → va_P (dC, dI) zz_cl (wr ++ []) H1 → va_D A0 (wr ++ []) → va_S A0 s.heap H1 locs1 → H1[q9]? = some ce → ce.vm = .none → s.vm.findClass E9 = some ce.cls → vx_W p l e R s m args below meth c H1 locs1 (cells + 1) (slots + 6) Q (F0 m pc ls rest) q9) : W p l e R s m args below meth c H locs cells slots Q (F0 m pc ls (.int a_1 :: .int a_0 :: rest)) := by
  have hPc := hP.sub (ws' := []) isC h1
  have hDc := hD.sub (ws' := []) isC h3 h2
  have hKc := hK.sub (tys' := []) kt h7
  have hFc := va_free (wc := []) hD hS hA isC h2
  refine vx_callv (vx_runS (As := [.int a_0, .int a_1]) (rest := rest) S (c_SR_requireBelowx l hl9 sa dC dI H.size a_0 a_1 px hw) cw ⟨zz_blindX, fun U hU hW => ⟨rfl, by rw [hU], by rw [hU]; exact hPc, va_K.moved hW.alike hKc, hDc.weaken (fun _ _ _ _ => trivial), zz_X_to hX hS hFc hU hW⟩⟩ rfl rfl hsize rfl (lv_room hrest) hdg hf) hS (fun q _ h => hFc q h) hFc (fun q _ h => hFc q h) (fun E9 ce q9 u t H1 locs1 ht hvm hp hB hz1 hk1 hS1 hce hcv hcl => ?_) (fun u t H1 locs1 ht hvm hf9 hB hz1 hk1 hS1 => hf9.elim)
  obtain ⟨hE, hP1, hK1, hD1⟩ := hB
  rw [ht] at hP1
  obtain ⟨hP2, hD2⟩ := va_join (wr := wr) (w1 := []) hP hD isC isR h2 h4 h5 h6 hk1 hFc hP1 hD1
  subst hE
  exact kx u.1 ce q9 H1 locs1 hp hP2 hD2 hS1 hce hcv hcl
abbrev rm_SR_requireElement : Room := { frames := 1, cells := 0, slots := 0, locals := 21 }
abbrev qz_SR_requireElement (dC : Nat → ClassId) (dI : Nat → Nat → Nat) (q_this q_exponents q_byElement q_byLetter q_hullByLetter q_minors q_knownPower : Nat) (x_count : Int32) (x_settled : Int32) (post : Prop) (A : Nat → Prop) : Array Value → State → Outcome → State → Prop := va_Qv (fun (_ : Unit) => post) (fun (u : Unit) (t : State) => va_P (dC, dI) zz_cl [(q_this, .inr (3, [.ref q_exponents, .int x_count, .ref q_byElement, .ref q_byLetter, .ref q_hullByLetter, .int x_settled, .ref q_minors, .ref q_knownPower]))] t.heap ∧ va_K (dC, dI) zz_cl [] t ∧ va_D A [(q_this, .inr (3, [.ref q_exponents, .int x_count, .ref q_byElement, .ref q_byLetter, .ref q_hullByLetter, .int x_settled, .ref q_minors, .ref q_knownPower]))]) A
def cx_SR_requireElement (p : Program) (s : State) (m : MethodId) (args : Array Value) (meth : Method) (c : Code) : Prop := p.tables.exec = Jvm.exec ∧ c.code = b_SR_requireElement ∧ meth.sig.returnType = none ∧ c.maxLocals = 2 ∧ s.vm.findClass "StructureRows" = some m.cls ∧ (∀ w ∈ zz_GW, w.before args s = true) ∧ meth.locks = false
def wp_SR_requireElement (x_count : Int32) (x_settled : Int32) (a_0 : Int32) (post : Prop) : Prop := wp_SR_requireBelow a_0 x_count  (post)
set_option maxHeartbeats 4000000 in
set_option maxRecDepth 100000 in
theorem c_SR_requireElement (l : Launch) (dC : Nat → ClassId) (dI : Nat → Nat → Nat) (q_this q_exponents q_byElement q_byLetter q_hullByLetter q_minors q_knownPower : Nat) (sz : Nat) (x_count : Int32) (x_settled : Int32) (a_0 : Int32) (post : Prop) (hw : wp_SR_requireElement x_count x_settled a_0 post) : Met l y_SR_requireElement (zz_w y_SR_requireElement b_SR_requireElement 2 none) rm_SR_requireElement (va_Pc [.ref q_this, .int a_0] (fun U => U.heap.size = sz ∧ va_P (dC, dI) zz_cl [(q_this, .inr (3, [.ref q_exponents, .int x_count, .ref q_byElement, .ref q_byLetter, .ref q_hullByLetter, .int x_settled, .ref q_minors, .ref q_knownPower]))] U.heap ∧ va_K (dC, dI) zz_cl [] U ∧ va_D (fun _ => True) [(q_this, .inr (3, [.ref q_exponents, .int x_count, .ref q_byElement, .ref q_byLetter, .ref q_hullByLetter, .int x_settled, .ref q_minors, .ref q_knownPower]))])) (qz_SR_requireElement dC dI q_this q_exponents q_byElement q_byLetter q_hullByLetter q_minors q_knownPower x_count x_settled post (va_A [(q_this, .inr (3, [.ref q_exponents, .int x_count, .ref q_byElement, .ref q_byLetter, .ref q_hullByLetter, .int x_settled, .ref q_minors, .ref q_knownPower]))] sz)) 0 0 (va_A [(q_this, .inr (3, [.ref q_exponents, .int x_count, .ref q_byElement, .ref q_byLetter, .ref q_hullByLetter, .int x_settled, .ref q_minors, .ref q_knownPower]))] sz) := by
  refine Met.ofW (cc := b_SR_requireElement) (maxL := 2) (ret := none) (by decide) rfl ?_
  intro p e s m args below meth c s₁ B hml hv
  obtain ⟨rfl, hsz, hP, hK, hD0⟩ := hv
  have hx := B.exec
  have hb := B.bytes
  have hr := B.returns
  have hts0 := atoms_spec (ws := (zz_w y_SR_requireElement b_SR_requireElement 2 none)) B.pre
  have hts : ∀ w ∈ zz_GW, w.before _ s = true := fun w h => hts0 w (List.mem_cons_of_mem _ h)
  clear hts0
  have hown : s.vm.findClass "StructureRows" = some m.cls := findClass_of_methodNamed B.named
  have hlocks := B.notSynchronized
  have C0 : cx_SR_requireElement p s m _ meth c := ⟨hx, hb, hr, hml, hown, hts, hlocks⟩
  subst hsz
  have hD := hD0.self (sz := s.heap.size)
  generalize hAe : va_A [(q_this, .inr (3, [.ref q_exponents, .int x_count, .ref q_byElement, .ref q_byLetter, .ref q_hullByLetter, .int x_settled, .ref q_minors, .ref q_knownPower]))] s.heap.size = A at hD ⊢
  have hA : ∀ q : Nat, s.heap.size ≤ q → A q := fun q h => by rw [← hAe]; exact Or.inr h
  clear hAe hD0
  have hS : va_S A s.heap s.heap [] := va_S.rf
  have hl := lv_entry ([.ref q_this, .int a_0]) (n := 2) (Nat.le_of_ble_eq_true rfl)
  rw [lg_entry_eq]
  generalize (lg_sl ([.ref q_this, .int a_0]) ++ List.replicate (2 - (lg_sl ([.ref q_this, .int a_0])).length) Slot.unset).toArray = ls at hl ⊢
  replace hl : lv_has ls 2 [(0, .ref q_this), (1, .int a_0)] := hl
  unfold wp_SR_requireElement at hw
  change W p l e rm_SR_requireElement s m _ below meth c s.heap [] 0 0 _ _
  refine lv_iload_n hx hb d_SR_requireElement_0 rfl (lv_at hl 1 rfl) ?_
  refine lv_aload_n hx hb d_SR_requireElement_1 rfl (lv_at hl 0 rfl) ?_
  refine va_get (D := (dC, dI)) (ci := 3) (v := .int x_count) (C := "StructureRows") (T := T_SR) (N := 8) hx hb hts in_SR hown hK hP 0 rfl rfl 1 (by decide) (hts _ tw_106) (fun _ h9 => h9) rfl d_SR_requireElement_2 ?_
  refine go_SR_requireBelow (wr := [(q_this, .inr (3, [.ref q_exponents, .int x_count, .ref q_byElement, .ref q_byLetter, .ref q_hullByLetter, .int x_settled, .ref q_minors, .ref q_knownPower]))]) ⟨hx, hb, hml, hown, hts⟩ (zz_cwS 2 hts tw_315 tw_313 tw_314 tw_31 ⟨by decide, by decide, by decide +kernel⟩ ⟨Nat.le_of_ble_eq_true rfl, Nat.le_of_ble_eq_true rfl⟩) hK hP hD hS hA [] [0] [] rfl rfl (by decide) rfl (by decide) (by decide) rfl hw hl.1 (Nat.le_of_ble_eq_true rfl) d_SR_requireElement_5 ⟨Nat.le_of_ble_eq_true rfl, Nat.le_of_ble_eq_true rfl⟩ (fun H locs hw hP hD hS => ?_)
  replace hP : va_P (dC, dI) zz_cl [(q_this, .inr (3, [.ref q_exponents, .int x_count, .ref q_byElement, .ref q_byLetter, .ref q_hullByLetter, .int x_settled, .ref q_minors, .ref q_knownPower]))] H := hP
  replace hD : va_D A [(q_this, .inr (3, [.ref q_exponents, .int x_count, .ref q_byElement, .ref q_byLetter, .ref q_hullByLetter, .int x_settled, .ref q_minors, .ref q_knownPower]))] := hD
  exact W.vret hx hb hr (fun t ht hW => ⟨⟨(), rfl, hw, by rw [ht]; exact hP, va_K.moved hW.alike hK, hD⟩, hS.F ht⟩) hS.2.2 d_SR_requireElement_8
set_option maxHeartbeats 4000000 in
set_option maxRecDepth 100000 in
theorem go_SR_requireElement {p : Program} {l : Launch} {e : Env} {R : Room} {s : State} {m : MethodId} {args : Array Value} {below : List Frame} {meth : Method} {c : Code} {H : Heap} {locs : List Loc} {cells slots : Nat} {Q : State → Prop} {cc : ByteArray} {nL : Nat} {Ts : List Cond} {own : String} {index : Nat} {A0 : Nat → Prop} {H0 : Heap} {dC : Nat → ClassId} {dI : Nat → Nat → Nat} {ws wr : va_W} {tys : List (ClassId × FieldType)} {q_this q_exponents q_byElement q_byLetter q_hullByLetter q_minors q_knownPower : Nat} {x_count : Int32} {x_settled : Int32} {a_0 : Int32} {post : Prop} (S : CallFix p m c cc nL s args Ts own) (cw : CallW R s args own "StructureRows" index y_SR_requireElement b_SR_requireElement 2 none (zz_w y_SR_requireElement b_SR_requireElement 2 none) rm_SR_requireElement 0 0 1) (hK : va_K (dC, dI) zz_cl tys s) (hP : va_P (dC, dI) zz_cl ws H) (hD : va_D A0 ws) (hS : va_S A0 H0 H locs) (hA : ∀ q, H0.size ≤ q → A0 q) (isC isR kt : List Nat) (h1 : isC.filterMap (fun i => ws[i]?) = [(q_this, .inr (3, [.ref q_exponents, .int x_count, .ref q_byElement, .ref q_byLetter, .ref q_hullByLetter, .int x_settled, .ref q_minors, .ref q_knownPower]))]) (h2 : isC.map (fun i => ws[i]?) = ([(q_this, .inr (3, [.ref q_exponents, .int x_count, .ref q_byElement, .ref q_byLetter, .ref q_hullByLetter, .int x_settled, .ref q_minors, .ref q_knownPower]))] : va_W).map some) (h3 : va_nd isC = true) (h4 : isR.map (fun i => ws[i]?) = wr.map some) (h5 : va_nd isR = true) (h6 : ∀ i ∈ isR, i ∉ isC) (h7 : kt.filterMap (fun i => tys[i]?) = []) (hw : wp_SR_requireElement x_count x_settled a_0 post) {pc : Nat} {ls : Array Slot} {rest : List Value} (hsize : ls.size = nL) (hrest : (rest.map fun v => v.category).sum ≤ 8) (hdg : decode cc pc = .ok (.invokevirtual index, 3)) (hf : cells + 0 ≤ R.cells ∧ slots + 0 ≤ R.slots) (kk : ∀  (H1 : Heap) (locs1 : List Loc), post → va_P (dC, dI) zz_cl (wr ++ [(q_this, .inr (3, [.ref q_exponents, .int x_count, .ref q_byElement, .ref q_byLetter, .ref q_hullByLetter, .int x_settled, .ref q_minors, .ref q_knownPower]))]) H1 → va_D A0 (wr ++ [(q_this, .inr (3, [.ref q_exponents, .int x_count, .ref q_byElement, .ref q_byLetter, .ref q_hullByLetter, .int x_settled, .ref q_minors, .ref q_knownPower]))]) → va_S A0 H0 H1 locs1 → W p l e R s m args below meth c H1 locs1 (cells + 0) (slots + 0) Q (F0 m (pc + 3) ls rest)) : W p l e R s m args below meth c H locs cells slots Q (F0 m pc ls (.int a_0 :: .ref q_this :: rest)) := by
  have hPc := hP.sub (ws' := [(q_this, .inr (3, [.ref q_exponents, .int x_count, .ref q_byElement, .ref q_byLetter, .ref q_hullByLetter, .int x_settled, .ref q_minors, .ref q_knownPower]))]) isC h1
  have hDc := hD.sub (ws' := [(q_this, .inr (3, [.ref q_exponents, .int x_count, .ref q_byElement, .ref q_byLetter, .ref q_hullByLetter, .int x_settled, .ref q_minors, .ref q_knownPower]))]) isC h3 h2
  have hKc := hK.sub (tys' := []) kt h7
  have hFc := va_free (wc := [(q_this, .inr (3, [.ref q_exponents, .int x_count, .ref q_byElement, .ref q_byLetter, .ref q_hullByLetter, .int x_settled, .ref q_minors, .ref q_knownPower]))]) hD hS hA isC h2
  refine va_callv (va_runV (As := [.int a_0]) (rest := rest) S (c_SR_requireElement l dC dI q_this q_exponents q_byElement q_byLetter q_hullByLetter q_minors q_knownPower H.size x_count x_settled a_0 post hw) cw ⟨zz_blind, va_recv hKc hPc (ci := 3) (q0 := 0) rfl rfl, fun U hU hW => ⟨rfl, by rw [hU], by rw [hU]; exact hPc, va_K.moved hW.alike hKc, hDc.weaken (fun _ _ _ _ => trivial)⟩⟩ rfl rfl hsize rfl (lv_room hrest) hdg hf) hS (fun q _ h => hFc q h) hFc (fun u t H1 locs ht hvm hw hB hz1 hk1 hS => ?_)
  obtain ⟨hP1, hK1, hD1⟩ := hB
  rw [ht] at hP1
  obtain ⟨hP2, hD2⟩ := va_join (wr := wr) (w1 := [(q_this, .inr (3, [.ref q_exponents, .int x_count, .ref q_byElement, .ref q_byLetter, .ref q_hullByLetter, .int x_settled, .ref q_minors, .ref q_knownPower]))]) hP hD isC isR h2 h4 h5 h6 hk1 hFc hP1 hD1
  exact kk  H1 locs hw hP2 hD2 hS
abbrev rm_SR_requireElementx : Room := { frames := 7, cells := 1, slots := 6, locals := 121 }
abbrev xz_SR_requireElementx (dC : Nat → ClassId) (dI : Nat → Nat → Nat) (q_this q_exponents q_byElement q_byLetter q_hullByLetter q_minors q_knownPower : Nat) (x_count : Int32) (x_settled : Int32) (px : String → Prop) (A : Nat → Prop) : String → State → State → Prop := vx_X (fun (u : String × (Unit)) => px u.1) (fun (E9 : String) (u : String × (Unit)) (t : State) => u.1 = E9 ∧ va_P (dC, dI) zz_cl [(q_this, .inr (3, [.ref q_exponents, .int x_count, .ref q_byElement, .ref q_byLetter, .ref q_hullByLetter, .int x_settled, .ref q_minors, .ref q_knownPower]))] t.heap ∧ va_K (dC, dI) zz_cl [] t ∧ va_D A [(q_this, .inr (3, [.ref q_exponents, .int x_count, .ref q_byElement, .ref q_byLetter, .ref q_hullByLetter, .int x_settled, .ref q_minors, .ref q_knownPower]))]) A
def cx_SR_requireElementx (p : Program) (l : Launch) (s : State) (m : MethodId) (args : Array Value) (meth : Method) (c : Code) : Prop := p.tables.exec = Jvm.exec ∧ c.code = b_SR_requireElement ∧ meth.sig.returnType = none ∧ c.maxLocals = 2 ∧ s.vm.findClass "StructureRows" = some m.cls ∧ (∀ w ∈ zz_GW, w.before args s = true) ∧ meth.locks = false ∧ (∀ x ∈ c.exceptionTable.toList, False) ∧ l.stackTraces = false
def wp_SR_requireElementx (x_count : Int32) (x_settled : Int32) (a_0 : Int32) (px : String → Prop) : Prop := wp_SR_requireBelowx a_0 x_count (fun (E9 : String) => px E9)
set_option maxHeartbeats 4000000 in
set_option maxRecDepth 100000 in
theorem c_SR_requireElementx (l : Launch) (hl9 : l.stackTraces = false) (sa : Nat → Nat) (dC : Nat → ClassId) (dI : Nat → Nat → Nat) (q_this q_exponents q_byElement q_byLetter q_hullByLetter q_minors q_knownPower : Nat) (sz : Nat) (x_count : Int32) (x_settled : Int32) (a_0 : Int32) (px : String → Prop) (hw : wp_SR_requireElementx x_count x_settled a_0 px) : vx_Met l y_SR_requireElement (zz_w y_SR_requireElement b_SR_requireElement 2 none) rm_SR_requireElementx (va_Pc [.ref q_this, .int a_0] (fun U => U.heap.size = sz ∧ va_P (dC, dI) zz_cl [(q_this, .inr (3, [.ref q_exponents, .int x_count, .ref q_byElement, .ref q_byLetter, .ref q_hullByLetter, .int x_settled, .ref q_minors, .ref q_knownPower]))] U.heap ∧ va_K (dC, dI) zz_cl [] U ∧ va_D (fun _ => True) [(q_this, .inr (3, [.ref q_exponents, .int x_count, .ref q_byElement, .ref q_byLetter, .ref q_hullByLetter, .int x_settled, .ref q_minors, .ref q_knownPower]))] ∧ zz_X sa (va_A [(q_this, .inr (3, [.ref q_exponents, .int x_count, .ref q_byElement, .ref q_byLetter, .ref q_hullByLetter, .int x_settled, .ref q_minors, .ref q_knownPower]))] sz) U)) (va_Qv (fun (_ : Unit) => False) (fun _ _ => True) (va_A [(q_this, .inr (3, [.ref q_exponents, .int x_count, .ref q_byElement, .ref q_byLetter, .ref q_hullByLetter, .int x_settled, .ref q_minors, .ref q_knownPower]))] sz)) (xz_SR_requireElementx dC dI q_this q_exponents q_byElement q_byLetter q_hullByLetter q_minors q_knownPower x_count x_settled px (va_A [(q_this, .inr (3, [.ref q_exponents, .int x_count, .ref q_byElement, .ref q_byLetter, .ref q_hullByLetter, .int x_settled, .ref q_minors, .ref q_knownPower]))] sz)) 1 6 (va_A [(q_this, .inr (3, [.ref q_exponents, .int x_count, .ref q_byElement, .ref q_byLetter, .ref q_hullByLetter, .int x_settled, .ref q_minors, .ref q_knownPower]))] sz) := by
  refine vx_ofW (cc := b_SR_requireElement) (maxL := 2) (ret := none) (by decide) rfl ?_
  intro p e s m args below meth c s₁ B hml hne hv
  obtain ⟨rfl, hsz, hP, hK, hD0, hX⟩ := hv
  have hx := B.exec
  have hb := B.bytes
  have hr := B.returns
  have hts0 := atoms_spec (ws := (zz_w y_SR_requireElement b_SR_requireElement 2 none)) B.pre
  have hts : ∀ w ∈ zz_GW, w.before _ s = true := fun w h => hts0 w (List.mem_cons_of_mem _ h)
  clear hts0
  have hown : s.vm.findClass "StructureRows" = some m.cls := findClass_of_methodNamed B.named
  have hlocks := B.notSynchronized
  have C0 : cx_SR_requireElementx p l s m _ meth c := ⟨hx, hb, hr, hml, hown, hts, hlocks, hne, hl9⟩
  subst hsz
  have hD := hD0.self (sz := s.heap.size)
  generalize hAe : va_A [(q_this, .inr (3, [.ref q_exponents, .int x_count, .ref q_byElement, .ref q_byLetter, .ref q_hullByLetter, .int x_settled, .ref q_minors, .ref q_knownPower]))] s.heap.size = A at hD hX ⊢
  have hA : ∀ q : Nat, s.heap.size ≤ q → A q := fun q h => by rw [← hAe]; exact Or.inr h
  clear hAe hD0
  have hS : va_S A s.heap s.heap [] := va_S.rf
  have hl := lv_entry ([.ref q_this, .int a_0]) (n := 2) (Nat.le_of_ble_eq_true rfl)
  rw [lg_entry_eq]
  generalize (lg_sl ([.ref q_this, .int a_0]) ++ List.replicate (2 - (lg_sl ([.ref q_this, .int a_0])).length) Slot.unset).toArray = ls at hl ⊢
  replace hl : lv_has ls 2 [(0, .ref q_this), (1, .int a_0)] := hl
  unfold wp_SR_requireElementx at hw
  change W p l e rm_SR_requireElementx s m _ below meth c s.heap [] 0 0 _ _
  refine lv_iload_n hx hb d_SR_requireElement_0 rfl (lv_at hl 1 rfl) ?_
  refine lv_aload_n hx hb d_SR_requireElement_1 rfl (lv_at hl 0 rfl) ?_
  refine va_get (D := (dC, dI)) (ci := 3) (v := .int x_count) (C := "StructureRows") (T := T_SR) (N := 8) hx hb hts in_SR hown hK hP 0 rfl rfl 1 (by decide) (hts _ tw_106) (fun _ h9 => h9) rfl d_SR_requireElement_2 ?_
  refine go_SR_requireBelowx (wr := [(q_this, .inr (3, [.ref q_exponents, .int x_count, .ref q_byElement, .ref q_byLetter, .ref q_hullByLetter, .int x_settled, .ref q_minors, .ref q_knownPower]))]) ⟨hx, hb, hml, hown, hts⟩ (zz_cwS 2 hts tw_315 tw_313 tw_314 tw_31 ⟨by decide, by decide, by decide +kernel⟩ ⟨Nat.le_of_ble_eq_true rfl, Nat.le_of_ble_eq_true rfl⟩) hl9 hX hK hP hD hS hA [] [0] [] rfl rfl (by decide) rfl (by decide) (by decide) rfl hw hl.1 (Nat.le_of_ble_eq_true rfl) d_SR_requireElement_5 ⟨Nat.le_of_ble_eq_true rfl, Nat.le_of_ble_eq_true rfl⟩ (fun E9 ce q9 H locs hw hP hD hS hce hcv hcl => ?_)
  replace hP : va_P (dC, dI) zz_cl [(q_this, .inr (3, [.ref q_exponents, .int x_count, .ref q_byElement, .ref q_byLetter, .ref q_hullByLetter, .int x_settled, .ref q_minors, .ref q_knownPower]))] H := hP
  replace hD : va_D A [(q_this, .inr (3, [.ref q_exponents, .int x_count, .ref q_byElement, .ref q_byLetter, .ref q_hullByLetter, .int x_settled, .ref q_minors, .ref q_knownPower]))] := hD
  exact vx_out (E := E9) (fun x hx => (hne x hx).elim) hlocks hce hcv hcl (fun t ht ha => ⟨(E9, ()), hw, ⟨rfl, by rw [ht]; exact hP, va_K.moved ha hK, hD⟩, hS.F ht⟩) hS.2.2 (Nat.le_of_ble_eq_true rfl) (Nat.le_of_ble_eq_true rfl)
set_option maxHeartbeats 4000000 in
set_option maxRecDepth 100000 in
theorem go_SR_requireElementx {p : Program} {l : Launch} {e : Env} {R : Room} {s : State} {m : MethodId} {args : Array Value} {below : List Frame} {meth : Method} {c : Code} {H : Heap} {locs : List Loc} {cells slots : Nat} {Q : State → Prop} {cc : ByteArray} {nL : Nat} {Ts : List Cond} {own : String} {index : Nat} {A0 : Nat → Prop} {dC : Nat → ClassId} {dI : Nat → Nat → Nat} {ws wr : va_W} {tys : List (ClassId × FieldType)} {q_this q_exponents q_byElement q_byLetter q_hullByLetter q_minors q_knownPower : Nat} {sa : Nat → Nat} {x_count : Int32} {x_settled : Int32} {a_0 : Int32} {px : String → Prop} (S : CallFix p m c cc nL s args Ts own) (cw : CallW R s args own "StructureRows" index y_SR_requireElement b_SR_requireElement 2 none (zz_w y_SR_requireElement b_SR_requireElement 2 none) rm_SR_requireElementx 1 6 1) (hl9 : l.stackTraces = false) (hX : zz_X sa A0 s) (hK : va_K (dC, dI) zz_cl tys s) (hP : va_P (dC, dI) zz_cl ws H) (hD : va_D A0 ws) (hS : va_S A0 s.heap H locs) (hA : ∀ q, s.heap.size ≤ q → A0 q) (isC isR kt : List Nat) (h1 : isC.filterMap (fun i => ws[i]?) = [(q_this, .inr (3, [.ref q_exponents, .int x_count, .ref q_byElement, .ref q_byLetter, .ref q_hullByLetter, .int x_settled, .ref q_minors, .ref q_knownPower]))]) (h2 : isC.map (fun i => ws[i]?) = ([(q_this, .inr (3, [.ref q_exponents, .int x_count, .ref q_byElement, .ref q_byLetter, .ref q_hullByLetter, .int x_settled, .ref q_minors, .ref q_knownPower]))] : va_W).map some) (h3 : va_nd isC = true) (h4 : isR.map (fun i => ws[i]?) = wr.map some) (h5 : va_nd isR = true) (h6 : ∀ i ∈ isR, i ∉ isC) (h7 : kt.filterMap (fun i => tys[i]?) = []) (hw : wp_SR_requireElementx x_count x_settled a_0 px) {pc : Nat} {ls : Array Slot} {rest : List Value} (hsize : ls.size = nL) (hrest : (rest.map fun v => v.category).sum ≤ 8) (hdg : decode cc pc = .ok (.invokevirtual index, 3)) (hf : cells + 1 ≤ R.cells ∧ slots + 6 ≤ R.slots) (kx : ∀ (E9 : String) (ce : Cell) (q9 : Addr) (H1 : Heap) (locs1 : List Loc), px E9 → va_P (dC, dI) zz_cl (wr ++ [(q_this, .inr (3, [.ref q_exponents, .int x_count, .ref q_byElement, .ref q_byLetter, .ref q_hullByLetter, .int x_settled, .ref q_minors, .ref q_knownPower]))]) H1 → va_D A0 (wr ++ [(q_this, .inr (3, [.ref q_exponents, .int x_count, .ref q_byElement, .ref q_byLetter, .ref q_hullByLetter, .int x_settled, .ref q_minors, .ref q_knownPower]))]) → va_S A0 s.heap H1 locs1 → H1[q9]? = some ce → ce.vm = .none → s.vm.findClass E9 = some ce.cls → vx_W p l e R s m args below meth c H1 locs1 (cells + 1) (slots + 6) Q (F0 m pc ls rest) q9) : W p l e R s m args below meth c H locs cells slots Q (F0 m pc ls (.int a_0 :: .ref q_this :: rest)) := by
  have hPc := hP.sub (ws' := [(q_this, .inr (3, [.ref q_exponents, .int x_count, .ref q_byElement, .ref q_byLetter, .ref q_hullByLetter, .int x_settled, .ref q_minors, .ref q_knownPower]))]) isC h1
  have hDc := hD.sub (ws' := [(q_this, .inr (3, [.ref q_exponents, .int x_count, .ref q_byElement, .ref q_byLetter, .ref q_hullByLetter, .int x_settled, .ref q_minors, .ref q_knownPower]))]) isC h3 h2
  have hKc := hK.sub (tys' := []) kt h7
  have hFc := va_free (wc := [(q_this, .inr (3, [.ref q_exponents, .int x_count, .ref q_byElement, .ref q_byLetter, .ref q_hullByLetter, .int x_settled, .ref q_minors, .ref q_knownPower]))]) hD hS hA isC h2
  refine vx_callv (vx_runV (As := [.int a_0]) (rest := rest) S (c_SR_requireElementx l hl9 sa dC dI q_this q_exponents q_byElement q_byLetter q_hullByLetter q_minors q_knownPower H.size x_count x_settled a_0 px hw) cw ⟨zz_blindX, va_recv hKc hPc (ci := 3) (q0 := 0) rfl rfl, fun U hU hW => ⟨rfl, by rw [hU], by rw [hU]; exact hPc, va_K.moved hW.alike hKc, hDc.weaken (fun _ _ _ _ => trivial), zz_X_to hX hS hFc hU hW⟩⟩ rfl rfl hsize rfl (lv_room hrest) hdg hf) hS (fun q _ h => hFc q h) hFc (fun q _ h => hFc q h) (fun E9 ce q9 u t H1 locs1 ht hvm hp hB hz1 hk1 hS1 hce hcv hcl => ?_) (fun u t H1 locs1 ht hvm hf9 hB hz1 hk1 hS1 => hf9.elim)
  obtain ⟨hE, hP1, hK1, hD1⟩ := hB
  rw [ht] at hP1
  obtain ⟨hP2, hD2⟩ := va_join (wr := wr) (w1 := [(q_this, .inr (3, [.ref q_exponents, .int x_count, .ref q_byElement, .ref q_byLetter, .ref q_hullByLetter, .int x_settled, .ref q_minors, .ref q_knownPower]))]) hP hD isC isR h2 h4 h5 h6 hk1 hFc hP1 hD1
  subst hE
  exact kx u.1 ce q9 H1 locs1 hp hP2 hD2 hS1 hce hcv hcl
abbrev rm_SR_requireLetter : Room := { frames := 1, cells := 0, slots := 0, locals := 21 }
abbrev qz_SR_requireLetter (dC : Nat → ClassId) (dI : Nat → Nat → Nat)  (post : Prop) (A : Nat → Prop) : Array Value → State → Outcome → State → Prop := va_Qv (fun (_ : Unit) => post) (fun (u : Unit) (t : State) => va_P (dC, dI) zz_cl [] t.heap ∧ va_K (dC, dI) zz_cl [] t ∧ va_D A []) A
def cx_SR_requireLetter (p : Program) (s : State) (m : MethodId) (args : Array Value) (meth : Method) (c : Code) : Prop := p.tables.exec = Jvm.exec ∧ c.code = b_SR_requireLetter ∧ meth.sig.returnType = none ∧ c.maxLocals = 1 ∧ s.vm.findClass "StructureRows" = some m.cls ∧ (∀ w ∈ zz_GW, w.before args s = true) ∧ meth.locks = false
def wp_SR_requireLetter  (a_0 : Int32) (post : Prop) : Prop := wp_SR_requireBelow a_0 4  (post)
set_option maxHeartbeats 4000000 in
set_option maxRecDepth 100000 in
theorem c_SR_requireLetter (l : Launch) (dC : Nat → ClassId) (dI : Nat → Nat → Nat) (sz : Nat)  (a_0 : Int32) (post : Prop) (hw : wp_SR_requireLetter a_0 post) : Met l y_SR_requireLetter (zz_w y_SR_requireLetter b_SR_requireLetter 1 none) rm_SR_requireLetter (va_Pc [.int a_0] (fun U => U.heap.size = sz ∧ va_P (dC, dI) zz_cl [] U.heap ∧ va_K (dC, dI) zz_cl [] U ∧ va_D (fun _ => True) [])) (qz_SR_requireLetter dC dI post (va_A [] sz)) 0 0 (va_A [] sz) := by
  refine Met.ofW (cc := b_SR_requireLetter) (maxL := 1) (ret := none) (by decide) rfl ?_
  intro p e s m args below meth c s₁ B hml hv
  obtain ⟨rfl, hsz, hP, hK, hD0⟩ := hv
  have hx := B.exec
  have hb := B.bytes
  have hr := B.returns
  have hts0 := atoms_spec (ws := (zz_w y_SR_requireLetter b_SR_requireLetter 1 none)) B.pre
  have hts : ∀ w ∈ zz_GW, w.before _ s = true := fun w h => hts0 w (List.mem_cons_of_mem _ h)
  clear hts0
  have hown : s.vm.findClass "StructureRows" = some m.cls := findClass_of_methodNamed B.named
  have hlocks := B.notSynchronized
  have C0 : cx_SR_requireLetter p s m _ meth c := ⟨hx, hb, hr, hml, hown, hts, hlocks⟩
  subst hsz
  have hD := hD0.self (sz := s.heap.size)
  generalize hAe : va_A [] s.heap.size = A at hD ⊢
  have hA : ∀ q : Nat, s.heap.size ≤ q → A q := fun q h => by rw [← hAe]; exact Or.inr h
  clear hAe hD0
  have hS : va_S A s.heap s.heap [] := va_S.rf
  have hl := lv_entry ([.int a_0]) (n := 1) (Nat.le_of_ble_eq_true rfl)
  rw [lg_entry_eq]
  generalize (lg_sl ([.int a_0]) ++ List.replicate (1 - (lg_sl ([.int a_0])).length) Slot.unset).toArray = ls at hl ⊢
  replace hl : lv_has ls 1 [(0, .int a_0)] := hl
  unfold wp_SR_requireLetter at hw
  change W p l e rm_SR_requireLetter s m _ below meth c s.heap [] 0 0 _ _
  refine lv_iload_n hx hb d_SR_requireLetter_0 rfl (lv_at hl 0 rfl) ?_
  refine lv_iconst (v := 4) hx hb d_SR_requireLetter_1 (by decide) ?_
  refine go_SR_requireBelow (wr := []) ⟨hx, hb, hml, hown, hts⟩ (zz_cwS 2 hts tw_315 tw_313 tw_314 tw_31 ⟨by decide, by decide, by decide +kernel⟩ ⟨Nat.le_of_ble_eq_true rfl, Nat.le_of_ble_eq_true rfl⟩) hK hP hD hS hA [] [] [] rfl rfl (by decide) rfl (by decide) (by decide) rfl hw hl.1 (Nat.le_of_ble_eq_true rfl) d_SR_requireLetter_2 ⟨Nat.le_of_ble_eq_true rfl, Nat.le_of_ble_eq_true rfl⟩ (fun H locs hw hP hD hS => ?_)
  replace hP : va_P (dC, dI) zz_cl [] H := hP
  replace hD : va_D A [] := hD
  exact W.vret hx hb hr (fun t ht hW => ⟨⟨(), rfl, hw, by rw [ht]; exact hP, va_K.moved hW.alike hK, hD⟩, hS.F ht⟩) hS.2.2 d_SR_requireLetter_5
set_option maxHeartbeats 4000000 in
set_option maxRecDepth 100000 in
theorem go_SR_requireLetter {p : Program} {l : Launch} {e : Env} {R : Room} {s : State} {m : MethodId} {args : Array Value} {below : List Frame} {meth : Method} {c : Code} {H : Heap} {locs : List Loc} {cells slots : Nat} {Q : State → Prop} {cc : ByteArray} {nL : Nat} {Ts : List Cond} {own : String} {index : Nat} {A0 : Nat → Prop} {H0 : Heap} {dC : Nat → ClassId} {dI : Nat → Nat → Nat} {ws wr : va_W} {tys : List (ClassId × FieldType)}  {a_0 : Int32} {post : Prop} (S : CallFix p m c cc nL s args Ts own) (cw : CallB R s args own index y_SR_requireLetter b_SR_requireLetter 1 none (zz_w y_SR_requireLetter b_SR_requireLetter 1 none) rm_SR_requireLetter 0 0 1 ∧ (Cond.static y_SR_requireLetter).before args s = true) (hK : va_K (dC, dI) zz_cl tys s) (hP : va_P (dC, dI) zz_cl ws H) (hD : va_D A0 ws) (hS : va_S A0 H0 H locs) (hA : ∀ q, H0.size ≤ q → A0 q) (isC isR kt : List Nat) (h1 : isC.filterMap (fun i => ws[i]?) = []) (h2 : isC.map (fun i => ws[i]?) = ([] : va_W).map some) (h3 : va_nd isC = true) (h4 : isR.map (fun i => ws[i]?) = wr.map some) (h5 : va_nd isR = true) (h6 : ∀ i ∈ isR, i ∉ isC) (h7 : kt.filterMap (fun i => tys[i]?) = []) (hw : wp_SR_requireLetter a_0 post) {pc : Nat} {ls : Array Slot} {rest : List Value} (hsize : ls.size = nL) (hrest : (rest.map fun v => v.category).sum ≤ 8) (hdg : decode cc pc = .ok (.invokestatic index, 3)) (hf : cells + 0 ≤ R.cells ∧ slots + 0 ≤ R.slots) (kk : ∀  (H1 : Heap) (locs1 : List Loc), post → va_P (dC, dI) zz_cl (wr ++ []) H1 → va_D A0 (wr ++ []) → va_S A0 H0 H1 locs1 → W p l e R s m args below meth c H1 locs1 (cells + 0) (slots + 0) Q (F0 m (pc + 3) ls rest)) : W p l e R s m args below meth c H locs cells slots Q (F0 m pc ls (.int a_0 :: rest)) := by
  have hPc := hP.sub (ws' := []) isC h1
  have hDc := hD.sub (ws' := []) isC h3 h2
  have hKc := hK.sub (tys' := []) kt h7
  have hFc := va_free (wc := []) hD hS hA isC h2
  refine va_callv (va_runS (As := [.int a_0]) (rest := rest) S (c_SR_requireLetter l dC dI H.size a_0 post hw) cw ⟨zz_blind, fun U hU hW => ⟨rfl, by rw [hU], by rw [hU]; exact hPc, va_K.moved hW.alike hKc, hDc.weaken (fun _ _ _ _ => trivial)⟩⟩ rfl rfl hsize rfl (lv_room hrest) hdg hf) hS (fun q _ h => hFc q h) hFc (fun u t H1 locs ht hvm hw hB hz1 hk1 hS => ?_)
  obtain ⟨hP1, hK1, hD1⟩ := hB
  rw [ht] at hP1
  obtain ⟨hP2, hD2⟩ := va_join (wr := wr) (w1 := []) hP hD isC isR h2 h4 h5 h6 hk1 hFc hP1 hD1
  exact kk  H1 locs hw hP2 hD2 hS
abbrev rm_SR_requireLetterx : Room := { frames := 7, cells := 1, slots := 6, locals := 121 }
abbrev xz_SR_requireLetterx (dC : Nat → ClassId) (dI : Nat → Nat → Nat)  (px : String → Prop) (A : Nat → Prop) : String → State → State → Prop := vx_X (fun (u : String × (Unit)) => px u.1) (fun (E9 : String) (u : String × (Unit)) (t : State) => u.1 = E9 ∧ va_P (dC, dI) zz_cl [] t.heap ∧ va_K (dC, dI) zz_cl [] t ∧ va_D A []) A
def cx_SR_requireLetterx (p : Program) (l : Launch) (s : State) (m : MethodId) (args : Array Value) (meth : Method) (c : Code) : Prop := p.tables.exec = Jvm.exec ∧ c.code = b_SR_requireLetter ∧ meth.sig.returnType = none ∧ c.maxLocals = 1 ∧ s.vm.findClass "StructureRows" = some m.cls ∧ (∀ w ∈ zz_GW, w.before args s = true) ∧ meth.locks = false ∧ (∀ x ∈ c.exceptionTable.toList, False) ∧ l.stackTraces = false
def wp_SR_requireLetterx  (a_0 : Int32) (px : String → Prop) : Prop := wp_SR_requireBelowx a_0 4 (fun (E9 : String) => px E9)
set_option maxHeartbeats 4000000 in
set_option maxRecDepth 100000 in
theorem c_SR_requireLetterx (l : Launch) (hl9 : l.stackTraces = false) (sa : Nat → Nat) (dC : Nat → ClassId) (dI : Nat → Nat → Nat) (sz : Nat)  (a_0 : Int32) (px : String → Prop) (hw : wp_SR_requireLetterx a_0 px) : vx_Met l y_SR_requireLetter (zz_w y_SR_requireLetter b_SR_requireLetter 1 none) rm_SR_requireLetterx (va_Pc [.int a_0] (fun U => U.heap.size = sz ∧ va_P (dC, dI) zz_cl [] U.heap ∧ va_K (dC, dI) zz_cl [] U ∧ va_D (fun _ => True) [] ∧ zz_X sa (va_A [] sz) U)) (va_Qv (fun (_ : Unit) => False) (fun _ _ => True) (va_A [] sz)) (xz_SR_requireLetterx dC dI px (va_A [] sz)) 1 6 (va_A [] sz) := by
  refine vx_ofW (cc := b_SR_requireLetter) (maxL := 1) (ret := none) (by decide) rfl ?_
  intro p e s m args below meth c s₁ B hml hne hv
  obtain ⟨rfl, hsz, hP, hK, hD0, hX⟩ := hv
  have hx := B.exec
  have hb := B.bytes
  have hr := B.returns
  have hts0 := atoms_spec (ws := (zz_w y_SR_requireLetter b_SR_requireLetter 1 none)) B.pre
  have hts : ∀ w ∈ zz_GW, w.before _ s = true := fun w h => hts0 w (List.mem_cons_of_mem _ h)
  clear hts0
  have hown : s.vm.findClass "StructureRows" = some m.cls := findClass_of_methodNamed B.named
  have hlocks := B.notSynchronized
  have C0 : cx_SR_requireLetterx p l s m _ meth c := ⟨hx, hb, hr, hml, hown, hts, hlocks, hne, hl9⟩
  subst hsz
  have hD := hD0.self (sz := s.heap.size)
  generalize hAe : va_A [] s.heap.size = A at hD hX ⊢
  have hA : ∀ q : Nat, s.heap.size ≤ q → A q := fun q h => by rw [← hAe]; exact Or.inr h
  clear hAe hD0
  have hS : va_S A s.heap s.heap [] := va_S.rf
  have hl := lv_entry ([.int a_0]) (n := 1) (Nat.le_of_ble_eq_true rfl)
  rw [lg_entry_eq]
  generalize (lg_sl ([.int a_0]) ++ List.replicate (1 - (lg_sl ([.int a_0])).length) Slot.unset).toArray = ls at hl ⊢
  replace hl : lv_has ls 1 [(0, .int a_0)] := hl
  unfold wp_SR_requireLetterx at hw
  change W p l e rm_SR_requireLetterx s m _ below meth c s.heap [] 0 0 _ _
  refine lv_iload_n hx hb d_SR_requireLetter_0 rfl (lv_at hl 0 rfl) ?_
  refine lv_iconst (v := 4) hx hb d_SR_requireLetter_1 (by decide) ?_
  refine go_SR_requireBelowx (wr := []) ⟨hx, hb, hml, hown, hts⟩ (zz_cwS 2 hts tw_315 tw_313 tw_314 tw_31 ⟨by decide, by decide, by decide +kernel⟩ ⟨Nat.le_of_ble_eq_true rfl, Nat.le_of_ble_eq_true rfl⟩) hl9 hX hK hP hD hS hA [] [] [] rfl rfl (by decide) rfl (by decide) (by decide) rfl hw hl.1 (Nat.le_of_ble_eq_true rfl) d_SR_requireLetter_2 ⟨Nat.le_of_ble_eq_true rfl, Nat.le_of_ble_eq_true rfl⟩ (fun E9 ce q9 H locs hw hP hD hS hce hcv hcl => ?_)
  replace hP : va_P (dC, dI) zz_cl [] H := hP
  replace hD : va_D A [] := hD
  exact vx_out (E := E9) (fun x hx => (hne x hx).elim) hlocks hce hcv hcl (fun t ht ha => ⟨(E9, ()), hw, ⟨rfl, by rw [ht]; exact hP, va_K.moved ha hK, hD⟩, hS.F ht⟩) hS.2.2 (Nat.le_of_ble_eq_true rfl) (Nat.le_of_ble_eq_true rfl)
set_option maxHeartbeats 4000000 in
set_option maxRecDepth 100000 in
theorem go_SR_requireLetterx {p : Program} {l : Launch} {e : Env} {R : Room} {s : State} {m : MethodId} {args : Array Value} {below : List Frame} {meth : Method} {c : Code} {H : Heap} {locs : List Loc} {cells slots : Nat} {Q : State → Prop} {cc : ByteArray} {nL : Nat} {Ts : List Cond} {own : String} {index : Nat} {A0 : Nat → Prop} {dC : Nat → ClassId} {dI : Nat → Nat → Nat} {ws wr : va_W} {tys : List (ClassId × FieldType)} {sa : Nat → Nat}  {a_0 : Int32} {px : String → Prop} (S : CallFix p m c cc nL s args Ts own) (cw : CallB R s args own index y_SR_requireLetter b_SR_requireLetter 1 none (zz_w y_SR_requireLetter b_SR_requireLetter 1 none) rm_SR_requireLetterx 1 6 1 ∧ (Cond.static y_SR_requireLetter).before args s = true) (hl9 : l.stackTraces = false) (hX : zz_X sa A0 s) (hK : va_K (dC, dI) zz_cl tys s) (hP : va_P (dC, dI) zz_cl ws H) (hD : va_D A0 ws) (hS : va_S A0 s.heap H locs) (hA : ∀ q, s.heap.size ≤ q → A0 q) (isC isR kt : List Nat) (h1 : isC.filterMap (fun i => ws[i]?) = []) (h2 : isC.map (fun i => ws[i]?) = ([] : va_W).map some) (h3 : va_nd isC = true) (h4 : isR.map (fun i => ws[i]?) = wr.map some) (h5 : va_nd isR = true) (h6 : ∀ i ∈ isR, i ∉ isC) (h7 : kt.filterMap (fun i => tys[i]?) = []) (hw : wp_SR_requireLetterx a_0 px) {pc : Nat} {ls : Array Slot} {rest : List Value} (hsize : ls.size = nL) (hrest : (rest.map fun v => v.category).sum ≤ 8) (hdg : decode cc pc = .ok (.invokestatic index, 3)) (hf : cells + 1 ≤ R.cells ∧ slots + 6 ≤ R.slots) (kx : ∀ (E9 : String) (ce : Cell) (q9 : Addr) (H1 : Heap) (locs1 : List Loc), px E9 → va_P (dC, dI) zz_cl (wr ++ []) H1 → va_D A0 (wr ++ []) → va_S A0 s.heap H1 locs1 → H1[q9]? = some ce → ce.vm = .none → s.vm.findClass E9 = some ce.cls → vx_W p l e R s m args below meth c H1 locs1 (cells + 1) (slots + 6) Q (F0 m pc ls rest) q9) : W p l e R s m args below meth c H locs cells slots Q (F0 m pc ls (.int a_0 :: rest)) := by
  have hPc := hP.sub (ws' := []) isC h1
  have hDc := hD.sub (ws' := []) isC h3 h2
  have hKc := hK.sub (tys' := []) kt h7
  have hFc := va_free (wc := []) hD hS hA isC h2
  refine vx_callv (vx_runS (As := [.int a_0]) (rest := rest) S (c_SR_requireLetterx l hl9 sa dC dI H.size a_0 px hw) cw ⟨zz_blindX, fun U hU hW => ⟨rfl, by rw [hU], by rw [hU]; exact hPc, va_K.moved hW.alike hKc, hDc.weaken (fun _ _ _ _ => trivial), zz_X_to hX hS hFc hU hW⟩⟩ rfl rfl hsize rfl (lv_room hrest) hdg hf) hS (fun q _ h => hFc q h) hFc (fun q _ h => hFc q h) (fun E9 ce q9 u t H1 locs1 ht hvm hp hB hz1 hk1 hS1 hce hcv hcl => ?_) (fun u t H1 locs1 ht hvm hf9 hB hz1 hk1 hS1 => hf9.elim)
  obtain ⟨hE, hP1, hK1, hD1⟩ := hB
  rw [ht] at hP1
  obtain ⟨hP2, hD2⟩ := va_join (wr := wr) (w1 := []) hP hD isC isR h2 h4 h5 h6 hk1 hFc hP1 hD1
  subst hE
  exact kx u.1 ce q9 H1 locs1 hp hP2 hD2 hS1 hce hcv hcl
abbrev rm_SR_isExponent : Room := { frames := 0, cells := 0, slots := 0, locals := 0 }
abbrev qz_SR_isExponent (dC : Nat → ClassId) (dI : Nat → Nat → Nat)  (post : Int32 → Prop) (A : Nat → Prop) : Array Value → State → Outcome → State → Prop := va_Qi (fun (r : Int32) (_ : Unit) => post r) (fun (u : Unit) (t : State) => va_P (dC, dI) zz_cl [] t.heap ∧ va_K (dC, dI) zz_cl [] t ∧ va_D A []) A
def cx_SR_isExponent (p : Program) (s : State) (m : MethodId) (args : Array Value) (meth : Method) (c : Code) : Prop := p.tables.exec = Jvm.exec ∧ c.code = b_SR_isExponent ∧ meth.sig.returnType = (some .boolean) ∧ c.maxLocals = 1 ∧ s.vm.findClass "StructureRows" = some m.cls ∧ (∀ w ∈ zz_GW, w.before args s = true) ∧ meth.locks = false
def wp_SR_isExponent  (a_0 : Int32) (post : Int32 → Prop) : Prop := (a_0 < (-5) → (post 0)) ∧ (¬ a_0 < (-5) → ((5 < a_0 → (post 0)) ∧ (¬ 5 < a_0 → (post 1))))
set_option maxHeartbeats 4000000 in
set_option maxRecDepth 100000 in
theorem c_SR_isExponent (l : Launch) (dC : Nat → ClassId) (dI : Nat → Nat → Nat) (sz : Nat)  (a_0 : Int32) (post : Int32 → Prop) (hw : wp_SR_isExponent a_0 post) : Met l y_SR_isExponent (zz_w y_SR_isExponent b_SR_isExponent 1 (some .boolean)) rm_SR_isExponent (va_Pc [.int a_0] (fun U => U.heap.size = sz ∧ va_P (dC, dI) zz_cl [] U.heap ∧ va_K (dC, dI) zz_cl [] U ∧ va_D (fun _ => True) [])) (qz_SR_isExponent dC dI post (va_A [] sz)) 0 0 (va_A [] sz) := by
  refine Met.ofW (cc := b_SR_isExponent) (maxL := 1) (ret := (some .boolean)) (by decide) rfl ?_
  intro p e s m args below meth c s₁ B hml hv
  obtain ⟨rfl, hsz, hP, hK, hD0⟩ := hv
  have hx := B.exec
  have hb := B.bytes
  have hr := B.returns
  have hts0 := atoms_spec (ws := (zz_w y_SR_isExponent b_SR_isExponent 1 (some .boolean))) B.pre
  have hts : ∀ w ∈ zz_GW, w.before _ s = true := fun w h => hts0 w (List.mem_cons_of_mem _ h)
  clear hts0
  have hown : s.vm.findClass "StructureRows" = some m.cls := findClass_of_methodNamed B.named
  have hlocks := B.notSynchronized
  have C0 : cx_SR_isExponent p s m _ meth c := ⟨hx, hb, hr, hml, hown, hts, hlocks⟩
  subst hsz
  have hD := hD0.self (sz := s.heap.size)
  generalize hAe : va_A [] s.heap.size = A at hD ⊢
  have hA : ∀ q : Nat, s.heap.size ≤ q → A q := fun q h => by rw [← hAe]; exact Or.inr h
  clear hAe hD0
  have hS : va_S A s.heap s.heap [] := va_S.rf
  have hl := lv_entry ([.int a_0]) (n := 1) (Nat.le_of_ble_eq_true rfl)
  rw [lg_entry_eq]
  generalize (lg_sl ([.int a_0]) ++ List.replicate (1 - (lg_sl ([.int a_0])).length) Slot.unset).toArray = ls at hl ⊢
  replace hl : lv_has ls 1 [(0, .int a_0)] := hl
  unfold wp_SR_isExponent at hw
  change W p l e rm_SR_isExponent s m _ below meth c s.heap [] 0 0 _ _
  refine lv_iload_n hx hb d_SR_isExponent_0 rfl (lv_at hl 0 rfl) ?_
  refine lv_bipush (v := (-5)) hx hb d_SR_isExponent_1 (by decide) ?_
  refine lv_icmp_lt (tgt := 15) hx hb d_SR_isExponent_3 (by decide) (fun h_1 => ?_) (fun h_1 => ?_)
  · replace hw := hw.1 h_1
    refine lv_iconst (v := 0) hx hb d_SR_isExponent_15 (by decide) ?_
    exact W.zret (v := 0) (ty := .boolean) hx hb hr rfl (fun t ht hW => ⟨⟨0, (), rfl, hw, by rw [ht]; exact hP, va_K.moved hW.alike hK, hD⟩, hS.F ht⟩) hS.2.2 d_SR_isExponent_16
  · replace hw := hw.2 h_1
    refine lv_iload_n hx hb d_SR_isExponent_6 rfl (lv_at hl 0 rfl) ?_
    refine lv_iconst (v := 5) hx hb d_SR_isExponent_7 (by decide) ?_
    refine lv_icmp_gt (tgt := 15) hx hb d_SR_isExponent_8 (by decide) (fun h_2 => ?_) (fun h_2 => ?_)
    · replace hw := hw.1 h_2
      refine lv_iconst (v := 0) hx hb d_SR_isExponent_15 (by decide) ?_
      exact W.zret (v := 0) (ty := .boolean) hx hb hr rfl (fun t ht hW => ⟨⟨0, (), rfl, hw, by rw [ht]; exact hP, va_K.moved hW.alike hK, hD⟩, hS.F ht⟩) hS.2.2 d_SR_isExponent_16
    · replace hw := hw.2 h_2
      refine lv_iconst (v := 1) hx hb d_SR_isExponent_11 (by decide) ?_
      refine lv_goto (tgt := 16) hx hb d_SR_isExponent_12 (by decide) ?_
      exact W.zret (v := 1) (ty := .boolean) hx hb hr rfl (fun t ht hW => ⟨⟨1, (), rfl, hw, by rw [ht]; exact hP, va_K.moved hW.alike hK, hD⟩, hS.F ht⟩) hS.2.2 d_SR_isExponent_16
set_option maxHeartbeats 4000000 in
set_option maxRecDepth 100000 in
theorem go_SR_isExponent {p : Program} {l : Launch} {e : Env} {R : Room} {s : State} {m : MethodId} {args : Array Value} {below : List Frame} {meth : Method} {c : Code} {H : Heap} {locs : List Loc} {cells slots : Nat} {Q : State → Prop} {cc : ByteArray} {nL : Nat} {Ts : List Cond} {own : String} {index : Nat} {A0 : Nat → Prop} {H0 : Heap} {dC : Nat → ClassId} {dI : Nat → Nat → Nat} {ws wr : va_W} {tys : List (ClassId × FieldType)}  {a_0 : Int32} {post : Int32 → Prop} (S : CallFix p m c cc nL s args Ts own) (cw : CallB R s args own index y_SR_isExponent b_SR_isExponent 1 (some .boolean) (zz_w y_SR_isExponent b_SR_isExponent 1 (some .boolean)) rm_SR_isExponent 0 0 1 ∧ (Cond.static y_SR_isExponent).before args s = true) (hK : va_K (dC, dI) zz_cl tys s) (hP : va_P (dC, dI) zz_cl ws H) (hD : va_D A0 ws) (hS : va_S A0 H0 H locs) (hA : ∀ q, H0.size ≤ q → A0 q) (isC isR kt : List Nat) (h1 : isC.filterMap (fun i => ws[i]?) = []) (h2 : isC.map (fun i => ws[i]?) = ([] : va_W).map some) (h3 : va_nd isC = true) (h4 : isR.map (fun i => ws[i]?) = wr.map some) (h5 : va_nd isR = true) (h6 : ∀ i ∈ isR, i ∉ isC) (h7 : kt.filterMap (fun i => tys[i]?) = []) (hw : wp_SR_isExponent a_0 post) {pc : Nat} {ls : Array Slot} {rest : List Value} (hsize : ls.size = nL) (hrest : (rest.map fun v => v.category).sum ≤ 8) (hdg : decode cc pc = .ok (.invokestatic index, 3)) (hf : cells + 0 ≤ R.cells ∧ slots + 0 ≤ R.slots) (kk : ∀ (r : Int32) (H1 : Heap) (locs1 : List Loc), post r → va_P (dC, dI) zz_cl (wr ++ []) H1 → va_D A0 (wr ++ []) → va_S A0 H0 H1 locs1 → W p l e R s m args below meth c H1 locs1 (cells + 0) (slots + 0) Q (F0 m (pc + 3) ls (.int r :: rest))) : W p l e R s m args below meth c H locs cells slots Q (F0 m pc ls (.int a_0 :: rest)) := by
  have hPc := hP.sub (ws' := []) isC h1
  have hDc := hD.sub (ws' := []) isC h3 h2
  have hKc := hK.sub (tys' := []) kt h7
  have hFc := va_free (wc := []) hD hS hA isC h2
  refine va_calli (va_runS (As := [.int a_0]) (rest := rest) S (c_SR_isExponent l dC dI H.size a_0 post hw) cw ⟨zz_blind, fun U hU hW => ⟨rfl, by rw [hU], by rw [hU]; exact hPc, va_K.moved hW.alike hKc, hDc.weaken (fun _ _ _ _ => trivial)⟩⟩ rfl rfl hsize rfl (lv_room hrest) hdg hf) hS (fun q _ h => hFc q h) hFc (fun r u t H1 locs ht hvm hw hB hz1 hk1 hS => ?_)
  obtain ⟨hP1, hK1, hD1⟩ := hB
  rw [ht] at hP1
  obtain ⟨hP2, hD2⟩ := va_join (wr := wr) (w1 := []) hP hD isC isR h2 h4 h5 h6 hk1 hFc hP1 hD1
  exact kk r H1 locs hw hP2 hD2 hS
abbrev rm_SR_requireExponent : Room := { frames := 1, cells := 0, slots := 0, locals := 20 }
abbrev qz_SR_requireExponent (dC : Nat → ClassId) (dI : Nat → Nat → Nat)  (post : Prop) (A : Nat → Prop) : Array Value → State → Outcome → State → Prop := va_Qv (fun (_ : Unit) => post) (fun (u : Unit) (t : State) => va_P (dC, dI) zz_cl [] t.heap ∧ va_K (dC, dI) zz_cl [] t ∧ va_D A []) A
def cx_SR_requireExponent (p : Program) (s : State) (m : MethodId) (args : Array Value) (meth : Method) (c : Code) : Prop := p.tables.exec = Jvm.exec ∧ c.code = b_SR_requireExponent ∧ meth.sig.returnType = none ∧ c.maxLocals = 1 ∧ s.vm.findClass "StructureRows" = some m.cls ∧ (∀ w ∈ zz_GW, w.before args s = true) ∧ meth.locks = false
def wp_SR_requireExponent  (a_0 : Int32) (post : Prop) : Prop := wp_SR_isExponent a_0 (fun (r_1 : Int32) => ((¬ r_1 = 0 → (post)) ∧ (r_1 = 0 → (False))))
set_option maxHeartbeats 4000000 in
set_option maxRecDepth 100000 in
theorem c_SR_requireExponent (l : Launch) (dC : Nat → ClassId) (dI : Nat → Nat → Nat) (sz : Nat)  (a_0 : Int32) (post : Prop) (hw : wp_SR_requireExponent a_0 post) : Met l y_SR_requireExponent (zz_w y_SR_requireExponent b_SR_requireExponent 1 none) rm_SR_requireExponent (va_Pc [.int a_0] (fun U => U.heap.size = sz ∧ va_P (dC, dI) zz_cl [] U.heap ∧ va_K (dC, dI) zz_cl [] U ∧ va_D (fun _ => True) [])) (qz_SR_requireExponent dC dI post (va_A [] sz)) 0 0 (va_A [] sz) := by
  refine Met.ofW (cc := b_SR_requireExponent) (maxL := 1) (ret := none) (by decide) rfl ?_
  intro p e s m args below meth c s₁ B hml hv
  obtain ⟨rfl, hsz, hP, hK, hD0⟩ := hv
  have hx := B.exec
  have hb := B.bytes
  have hr := B.returns
  have hts0 := atoms_spec (ws := (zz_w y_SR_requireExponent b_SR_requireExponent 1 none)) B.pre
  have hts : ∀ w ∈ zz_GW, w.before _ s = true := fun w h => hts0 w (List.mem_cons_of_mem _ h)
  clear hts0
  have hown : s.vm.findClass "StructureRows" = some m.cls := findClass_of_methodNamed B.named
  have hlocks := B.notSynchronized
  have C0 : cx_SR_requireExponent p s m _ meth c := ⟨hx, hb, hr, hml, hown, hts, hlocks⟩
  subst hsz
  have hD := hD0.self (sz := s.heap.size)
  generalize hAe : va_A [] s.heap.size = A at hD ⊢
  have hA : ∀ q : Nat, s.heap.size ≤ q → A q := fun q h => by rw [← hAe]; exact Or.inr h
  clear hAe hD0
  have hS : va_S A s.heap s.heap [] := va_S.rf
  have hl := lv_entry ([.int a_0]) (n := 1) (Nat.le_of_ble_eq_true rfl)
  rw [lg_entry_eq]
  generalize (lg_sl ([.int a_0]) ++ List.replicate (1 - (lg_sl ([.int a_0])).length) Slot.unset).toArray = ls at hl ⊢
  replace hl : lv_has ls 1 [(0, .int a_0)] := hl
  unfold wp_SR_requireExponent at hw
  change W p l e rm_SR_requireExponent s m _ below meth c s.heap [] 0 0 _ _
  refine lv_iload_n hx hb d_SR_requireExponent_0 rfl (lv_at hl 0 rfl) ?_
  refine go_SR_isExponent (wr := []) ⟨hx, hb, hml, hown, hts⟩ (zz_cwS 1 hts tw_340 tw_338 tw_339 tw_31 ⟨by decide, by decide, by decide +kernel⟩ ⟨Nat.le_of_ble_eq_true rfl, Nat.le_of_ble_eq_true rfl⟩) hK hP hD hS hA [] [] [] rfl rfl (by decide) rfl (by decide) (by decide) rfl hw hl.1 (Nat.le_of_ble_eq_true rfl) d_SR_requireExponent_1 ⟨Nat.le_of_ble_eq_true rfl, Nat.le_of_ble_eq_true rfl⟩ (fun r_1 H locs hw hP hD hS => ?_)
  replace hP : va_P (dC, dI) zz_cl [] H := hP
  replace hD : va_D A [] := hD
  refine lv_if_ne (tgt := 17) hx hb d_SR_requireExponent_4 (by decide) (fun h_2 => ?_) (fun h_2 => ?_)
  · replace hw := hw.1 h_2
    exact W.vret hx hb hr (fun t ht hW => ⟨⟨(), rfl, hw, by rw [ht]; exact hP, va_K.moved hW.alike hK, hD⟩, hS.F ht⟩) hS.2.2 d_SR_requireExponent_17
  · replace hw := hw.2 h_2
    exact hw.elim
set_option maxHeartbeats 4000000 in
set_option maxRecDepth 100000 in
theorem go_SR_requireExponent {p : Program} {l : Launch} {e : Env} {R : Room} {s : State} {m : MethodId} {args : Array Value} {below : List Frame} {meth : Method} {c : Code} {H : Heap} {locs : List Loc} {cells slots : Nat} {Q : State → Prop} {cc : ByteArray} {nL : Nat} {Ts : List Cond} {own : String} {index : Nat} {A0 : Nat → Prop} {H0 : Heap} {dC : Nat → ClassId} {dI : Nat → Nat → Nat} {ws wr : va_W} {tys : List (ClassId × FieldType)}  {a_0 : Int32} {post : Prop} (S : CallFix p m c cc nL s args Ts own) (cw : CallB R s args own index y_SR_requireExponent b_SR_requireExponent 1 none (zz_w y_SR_requireExponent b_SR_requireExponent 1 none) rm_SR_requireExponent 0 0 1 ∧ (Cond.static y_SR_requireExponent).before args s = true) (hK : va_K (dC, dI) zz_cl tys s) (hP : va_P (dC, dI) zz_cl ws H) (hD : va_D A0 ws) (hS : va_S A0 H0 H locs) (hA : ∀ q, H0.size ≤ q → A0 q) (isC isR kt : List Nat) (h1 : isC.filterMap (fun i => ws[i]?) = []) (h2 : isC.map (fun i => ws[i]?) = ([] : va_W).map some) (h3 : va_nd isC = true) (h4 : isR.map (fun i => ws[i]?) = wr.map some) (h5 : va_nd isR = true) (h6 : ∀ i ∈ isR, i ∉ isC) (h7 : kt.filterMap (fun i => tys[i]?) = []) (hw : wp_SR_requireExponent a_0 post) {pc : Nat} {ls : Array Slot} {rest : List Value} (hsize : ls.size = nL) (hrest : (rest.map fun v => v.category).sum ≤ 8) (hdg : decode cc pc = .ok (.invokestatic index, 3)) (hf : cells + 0 ≤ R.cells ∧ slots + 0 ≤ R.slots) (kk : ∀  (H1 : Heap) (locs1 : List Loc), post → va_P (dC, dI) zz_cl (wr ++ []) H1 → va_D A0 (wr ++ []) → va_S A0 H0 H1 locs1 → W p l e R s m args below meth c H1 locs1 (cells + 0) (slots + 0) Q (F0 m (pc + 3) ls rest)) : W p l e R s m args below meth c H locs cells slots Q (F0 m pc ls (.int a_0 :: rest)) := by
  have hPc := hP.sub (ws' := []) isC h1
  have hDc := hD.sub (ws' := []) isC h3 h2
  have hKc := hK.sub (tys' := []) kt h7
  have hFc := va_free (wc := []) hD hS hA isC h2
  refine va_callv (va_runS (As := [.int a_0]) (rest := rest) S (c_SR_requireExponent l dC dI H.size a_0 post hw) cw ⟨zz_blind, fun U hU hW => ⟨rfl, by rw [hU], by rw [hU]; exact hPc, va_K.moved hW.alike hKc, hDc.weaken (fun _ _ _ _ => trivial)⟩⟩ rfl rfl hsize rfl (lv_room hrest) hdg hf) hS (fun q _ h => hFc q h) hFc (fun u t H1 locs ht hvm hw hB hz1 hk1 hS => ?_)
  obtain ⟨hP1, hK1, hD1⟩ := hB
  rw [ht] at hP1
  obtain ⟨hP2, hD2⟩ := va_join (wr := wr) (w1 := []) hP hD isC isR h2 h4 h5 h6 hk1 hFc hP1 hD1
  exact kk  H1 locs hw hP2 hD2 hS
abbrev rm_SR_requireExponentx : Room := { frames := 6, cells := 1, slots := 6, locals := 100 }
abbrev xz_SR_requireExponentx (dC : Nat → ClassId) (dI : Nat → Nat → Nat)  (px : String → Prop) (A : Nat → Prop) : String → State → State → Prop := vx_X (fun (u : String × (Unit)) => px u.1) (fun (E9 : String) (u : String × (Unit)) (t : State) => u.1 = E9 ∧ va_P (dC, dI) zz_cl [] t.heap ∧ va_K (dC, dI) zz_cl [] t ∧ va_D A []) A
def cx_SR_requireExponentx (p : Program) (l : Launch) (s : State) (m : MethodId) (args : Array Value) (meth : Method) (c : Code) : Prop := p.tables.exec = Jvm.exec ∧ c.code = b_SR_requireExponent ∧ meth.sig.returnType = none ∧ c.maxLocals = 1 ∧ s.vm.findClass "StructureRows" = some m.cls ∧ (∀ w ∈ zz_GW, w.before args s = true) ∧ meth.locks = false ∧ (∀ x ∈ c.exceptionTable.toList, False) ∧ l.stackTraces = false
def wp_SR_requireExponentx  (a_0 : Int32) (px : String → Prop) : Prop := wp_SR_isExponent a_0 (fun (r_1 : Int32) => ((¬ r_1 = 0 → (False)) ∧ (r_1 = 0 → (px "java/lang/IllegalArgumentException"))))
set_option maxHeartbeats 4000000 in
set_option maxRecDepth 100000 in
theorem c_SR_requireExponentx (l : Launch) (hl9 : l.stackTraces = false) (sa : Nat → Nat) (dC : Nat → ClassId) (dI : Nat → Nat → Nat) (sz : Nat)  (a_0 : Int32) (px : String → Prop) (hw : wp_SR_requireExponentx a_0 px) : vx_Met l y_SR_requireExponent (zz_w y_SR_requireExponent b_SR_requireExponent 1 none) rm_SR_requireExponentx (va_Pc [.int a_0] (fun U => U.heap.size = sz ∧ va_P (dC, dI) zz_cl [] U.heap ∧ va_K (dC, dI) zz_cl [] U ∧ va_D (fun _ => True) [] ∧ zz_X sa (va_A [] sz) U)) (va_Qv (fun (_ : Unit) => False) (fun _ _ => True) (va_A [] sz)) (xz_SR_requireExponentx dC dI px (va_A [] sz)) 1 6 (va_A [] sz) := by
  refine vx_ofW (cc := b_SR_requireExponent) (maxL := 1) (ret := none) (by decide) rfl ?_
  intro p e s m args below meth c s₁ B hml hne hv
  obtain ⟨rfl, hsz, hP, hK, hD0, hX⟩ := hv
  have hx := B.exec
  have hb := B.bytes
  have hr := B.returns
  have hts0 := atoms_spec (ws := (zz_w y_SR_requireExponent b_SR_requireExponent 1 none)) B.pre
  have hts : ∀ w ∈ zz_GW, w.before _ s = true := fun w h => hts0 w (List.mem_cons_of_mem _ h)
  clear hts0
  have hown : s.vm.findClass "StructureRows" = some m.cls := findClass_of_methodNamed B.named
  have hlocks := B.notSynchronized
  have C0 : cx_SR_requireExponentx p l s m _ meth c := ⟨hx, hb, hr, hml, hown, hts, hlocks, hne, hl9⟩
  subst hsz
  have hD := hD0.self (sz := s.heap.size)
  generalize hAe : va_A [] s.heap.size = A at hD hX ⊢
  have hA : ∀ q : Nat, s.heap.size ≤ q → A q := fun q h => by rw [← hAe]; exact Or.inr h
  clear hAe hD0
  have hS : va_S A s.heap s.heap [] := va_S.rf
  have hl := lv_entry ([.int a_0]) (n := 1) (Nat.le_of_ble_eq_true rfl)
  rw [lg_entry_eq]
  generalize (lg_sl ([.int a_0]) ++ List.replicate (1 - (lg_sl ([.int a_0])).length) Slot.unset).toArray = ls at hl ⊢
  replace hl : lv_has ls 1 [(0, .int a_0)] := hl
  unfold wp_SR_requireExponentx at hw
  change W p l e rm_SR_requireExponentx s m _ below meth c s.heap [] 0 0 _ _
  refine lv_iload_n hx hb d_SR_requireExponent_0 rfl (lv_at hl 0 rfl) ?_
  refine go_SR_isExponent (wr := []) ⟨hx, hb, hml, hown, hts⟩ (zz_cwS 1 hts tw_340 tw_338 tw_339 tw_31 ⟨by decide, by decide, by decide +kernel⟩ ⟨Nat.le_of_ble_eq_true rfl, Nat.le_of_ble_eq_true rfl⟩) hK hP hD hS hA [] [] [] rfl rfl (by decide) rfl (by decide) (by decide) rfl hw hl.1 (Nat.le_of_ble_eq_true rfl) d_SR_requireExponent_1 ⟨Nat.le_of_ble_eq_true rfl, Nat.le_of_ble_eq_true rfl⟩ (fun r_1 H locs hw hP hD hS => ?_)
  replace hP : va_P (dC, dI) zz_cl [] H := hP
  replace hD : va_D A [] := hD
  refine lv_if_ne (tgt := 17) hx hb d_SR_requireExponent_4 (by decide) (fun h_2 => ?_) (fun h_2 => ?_)
  · replace hw := hw.1 h_2
    exact hw.elim
  · replace hw := hw.2 h_2
    exact vx_throwS (own := "StructureRows") (cls := "java/lang/IllegalArgumentException") (names := zz_sup) hx hb hl9 hown (by decide +kernel) (by decide +kernel) (hts _ tw_341) (hts _ tw_41) hX.2.2.2.1.2.2.1 (zz_hat68 hts hX) (by decide +kernel) hX.2.2.2.2.2.1 hX.2.2.2.2.2.2 hS (hl.1.trans hml.symm) d_SR_requireExponent_7 d_SR_requireExponent_10 d_SR_requireExponent_11 d_SR_requireExponent_13 d_SR_requireExponent_16 (fun x hx => (hne x hx).elim) (Nat.le_of_ble_eq_true rfl) (Nat.le_of_ble_eq_true rfl) (Nat.le_of_ble_eq_true rfl) (Nat.le_of_ble_eq_true rfl) hlocks (fun t ha hsz9 hq9 => ⟨("java/lang/IllegalArgumentException", ()), hw, ⟨rfl, va_P.kept hP (fun k q hk => hq9 q.1 (va_at.lt (hP k q hk))), va_K.moved ha hK, hD⟩, zz_F hS hsz9 hq9⟩) hS.2.2 (Nat.le_of_ble_eq_true rfl) (Nat.le_of_ble_eq_true rfl)
set_option maxHeartbeats 4000000 in
set_option maxRecDepth 100000 in
theorem go_SR_requireExponentx {p : Program} {l : Launch} {e : Env} {R : Room} {s : State} {m : MethodId} {args : Array Value} {below : List Frame} {meth : Method} {c : Code} {H : Heap} {locs : List Loc} {cells slots : Nat} {Q : State → Prop} {cc : ByteArray} {nL : Nat} {Ts : List Cond} {own : String} {index : Nat} {A0 : Nat → Prop} {dC : Nat → ClassId} {dI : Nat → Nat → Nat} {ws wr : va_W} {tys : List (ClassId × FieldType)} {sa : Nat → Nat}  {a_0 : Int32} {px : String → Prop} (S : CallFix p m c cc nL s args Ts own) (cw : CallB R s args own index y_SR_requireExponent b_SR_requireExponent 1 none (zz_w y_SR_requireExponent b_SR_requireExponent 1 none) rm_SR_requireExponentx 1 6 1 ∧ (Cond.static y_SR_requireExponent).before args s = true) (hl9 : l.stackTraces = false) (hX : zz_X sa A0 s) (hK : va_K (dC, dI) zz_cl tys s) (hP : va_P (dC, dI) zz_cl ws H) (hD : va_D A0 ws) (hS : va_S A0 s.heap H locs) (hA : ∀ q, s.heap.size ≤ q → A0 q) (isC isR kt : List Nat) (h1 : isC.filterMap (fun i => ws[i]?) = []) (h2 : isC.map (fun i => ws[i]?) = ([] : va_W).map some) (h3 : va_nd isC = true) (h4 : isR.map (fun i => ws[i]?) = wr.map some) (h5 : va_nd isR = true) (h6 : ∀ i ∈ isR, i ∉ isC) (h7 : kt.filterMap (fun i => tys[i]?) = []) (hw : wp_SR_requireExponentx a_0 px) {pc : Nat} {ls : Array Slot} {rest : List Value} (hsize : ls.size = nL) (hrest : (rest.map fun v => v.category).sum ≤ 8) (hdg : decode cc pc = .ok (.invokestatic index, 3)) (hf : cells + 1 ≤ R.cells ∧ slots + 6 ≤ R.slots) (kx : ∀ (E9 : String) (ce : Cell) (q9 : Addr) (H1 : Heap) (locs1 : List Loc), px E9 → va_P (dC, dI) zz_cl (wr ++ []) H1 → va_D A0 (wr ++ []) → va_S A0 s.heap H1 locs1 → H1[q9]? = some ce → ce.vm = .none → s.vm.findClass E9 = some ce.cls → vx_W p l e R s m args below meth c H1 locs1 (cells + 1) (slots + 6) Q (F0 m pc ls rest) q9) : W p l e R s m args below meth c H locs cells slots Q (F0 m pc ls (.int a_0 :: rest)) := by
  have hPc := hP.sub (ws' := []) isC h1
  have hDc := hD.sub (ws' := []) isC h3 h2
  have hKc := hK.sub (tys' := []) kt h7
  have hFc := va_free (wc := []) hD hS hA isC h2
  refine vx_callv (vx_runS (As := [.int a_0]) (rest := rest) S (c_SR_requireExponentx l hl9 sa dC dI H.size a_0 px hw) cw ⟨zz_blindX, fun U hU hW => ⟨rfl, by rw [hU], by rw [hU]; exact hPc, va_K.moved hW.alike hKc, hDc.weaken (fun _ _ _ _ => trivial), zz_X_to hX hS hFc hU hW⟩⟩ rfl rfl hsize rfl (lv_room hrest) hdg hf) hS (fun q _ h => hFc q h) hFc (fun q _ h => hFc q h) (fun E9 ce q9 u t H1 locs1 ht hvm hp hB hz1 hk1 hS1 hce hcv hcl => ?_) (fun u t H1 locs1 ht hvm hf9 hB hz1 hk1 hS1 => hf9.elim)
  obtain ⟨hE, hP1, hK1, hD1⟩ := hB
  rw [ht] at hP1
  obtain ⟨hP2, hD2⟩ := va_join (wr := wr) (w1 := []) hP hD isC isR h2 h4 h5 h6 hk1 hFc hP1 hD1
  subst hE
  exact kx u.1 ce q9 H1 locs1 hp hP2 hD2 hS1 hce hcv hcl
abbrev rm_SR_element : Room := { frames := 2, cells := 0, slots := 0, locals := 40 }
abbrev qz_SR_element (dC : Nat → ClassId) (dI : Nat → Nat → Nat) (q_this q_exponents q_byElement q_byLetter q_hullByLetter q_minors q_knownPower q_knownPower_rest q_knownPower_shares : Nat) (k_exponents : ClassId)  (post : Int32 → Int32 → Int32 → (Nat → Int32) → Int32 → Prop) (A : Nat → Prop) : Array Value → State → Outcome → State → Prop := va_Qi (fun (r : Int32) (u : Int32 × Int32 × (Nat → Int32) × Int32) => post r u.1 u.2.1 u.2.2.1 u.2.2.2) (fun (u : Int32 × Int32 × (Nat → Int32) × Int32) (t : State) => va_P (dC, dI) zz_cl [(q_this, .inr (3, [.ref q_exponents, .int u.1, .ref q_byElement, .ref q_byLetter, .ref q_hullByLetter, .int u.2.1, .ref q_minors, .ref q_knownPower])), (q_exponents, .inl (k_exponents, 16, .inl u.2.2.1)), (q_knownPower, .inr (1, [.ref q_knownPower_rest, .ref q_knownPower_shares, .int u.2.2.2]))] t.heap ∧ va_K (dC, dI) zz_cl [(k_exponents, .int)] t ∧ va_D A [(q_this, .inr (3, [.ref q_exponents, .int u.1, .ref q_byElement, .ref q_byLetter, .ref q_hullByLetter, .int u.2.1, .ref q_minors, .ref q_knownPower])), (q_exponents, .inl (k_exponents, 16, .inl u.2.2.1)), (q_knownPower, .inr (1, [.ref q_knownPower_rest, .ref q_knownPower_shares, .int u.2.2.2]))]) A
def cx_SR_element (p : Program) (s : State) (m : MethodId) (args : Array Value) (meth : Method) (c : Code) : Prop := p.tables.exec = Jvm.exec ∧ c.code = b_SR_element ∧ meth.sig.returnType = (some .int) ∧ c.maxLocals = 2 ∧ s.vm.findClass "StructureRows" = some m.cls ∧ (∀ w ∈ zz_GW, w.before args s = true) ∧ meth.locks = false
def wp_SR_element_20b (x_count : Int32) (x_settled : Int32) (x_knownPower_known : Int32) (post : Int32 → Int32 → Int32 → (Nat → Int32) → Int32 → Prop)  (P : (Nat → Int32) → Int32 → Prop) (x_exponents : Nat → Int32) (u_1 : Int32) : Prop := (4 ≤ u_1 → (∀ v_3 : Int32, v_3 = x_count + 1 → (wp_SR_forgetAnswers v_3 x_settled x_knownPower_known (fun (m_4 : Int32) (m_5 : Int32) => (post (v_3 - 1) v_3 m_4 x_exponents m_5))))) ∧ (¬ 4 ≤ u_1 → (vp_in ((x_count * 4) + u_1) 16 ∧ ∀ w_7 : Nat → Int32, w_7 = upd x_exponents ((x_count * 4) + u_1).toNatClampNeg 0 → (∀ v_8 : Int32, v_8 = u_1 + 1 → (P w_7 v_8))))
def wp_SR_element_20 (x_count : Int32) (x_settled : Int32) (x_knownPower_known : Int32) (post : Int32 → Int32 → Int32 → (Nat → Int32) → Int32 → Prop)  (x_exponents : Nat → Int32) (u_1 : Int32) : Prop := ∀ P : (Nat → Int32) → Int32 → Prop, (∀ (x_exponents : Nat → Int32) (u_1 : Int32), wp_SR_element_20b x_count x_settled x_knownPower_known post P x_exponents u_1 → P x_exponents u_1) → P x_exponents u_1
set_option maxHeartbeats 4000000 in
set_option maxRecDepth 100000 in
theorem k_SR_element_20 {p : Program} {l : Launch} {e : Env} {s : State} {m : MethodId} {args : Array Value} {below : List Frame} {meth : Method} {c : Code} {dC : Nat → ClassId} {dI : Nat → Nat → Nat} {A : Nat → Prop} {q_this q_exponents q_byElement q_byLetter q_hullByLetter q_minors q_knownPower q_knownPower_rest q_knownPower_shares : Nat} {k_exponents : ClassId} {x_count : Int32} {x_settled : Int32} {x_knownPower_known : Int32} {post : Int32 → Int32 → Int32 → (Nat → Int32) → Int32 → Prop}  (C0 : cx_SR_element p s m args meth c) (hA : ∀ q : Nat, s.heap.size ≤ q → A q) (hK : va_K (dC, dI) zz_cl [(k_exponents, .int)] s) {x_exponents : Nat → Int32} {u_1 : Int32} (hw : wp_SR_element_20 x_count x_settled x_knownPower_known post x_exponents u_1) {H : Heap} {locs : List Loc} {ls : Array Slot} (hP : va_P (dC, dI) zz_cl [(q_this, .inr (3, [.ref q_exponents, .int x_count, .ref q_byElement, .ref q_byLetter, .ref q_hullByLetter, .int x_settled, .ref q_minors, .ref q_knownPower])), (q_exponents, .inl (k_exponents, 16, .inl x_exponents)), (q_knownPower, .inr (1, [.ref q_knownPower_rest, .ref q_knownPower_shares, .int x_knownPower_known]))] H) (hD : va_D A [(q_this, .inr (3, [.ref q_exponents, .int x_count, .ref q_byElement, .ref q_byLetter, .ref q_hullByLetter, .int x_settled, .ref q_minors, .ref q_knownPower])), (q_exponents, .inl (k_exponents, 16, .inl x_exponents)), (q_knownPower, .inr (1, [.ref q_knownPower_rest, .ref q_knownPower_shares, .int x_knownPower_known]))]) (hS : va_S A s.heap H locs) (hl : lv_has ls 2 [(0, .ref q_this), (1, .int u_1)]) : W p l e rm_SR_element s m args below meth c H locs 0 0 (MQ below (qz_SR_element dC dI q_this q_exponents q_byElement q_byLetter q_hullByLetter q_minors q_knownPower q_knownPower_rest q_knownPower_shares k_exponents post A) args s 0 0 A) (F0 m 20 ls []) := by
  have C1 := C0
  obtain ⟨hx, hb, hr, hml, hown, hts, hlocks⟩ := C1
  refine hw (fun (x_exponents : Nat → Int32) (u_1 : Int32) => ∀ (H : Heap) (locs : List Loc) (ls : Array Slot), va_P (dC, dI) zz_cl [(q_this, .inr (3, [.ref q_exponents, .int x_count, .ref q_byElement, .ref q_byLetter, .ref q_hullByLetter, .int x_settled, .ref q_minors, .ref q_knownPower])), (q_exponents, .inl (k_exponents, 16, .inl x_exponents)), (q_knownPower, .inr (1, [.ref q_knownPower_rest, .ref q_knownPower_shares, .int x_knownPower_known]))] H → va_D A [(q_this, .inr (3, [.ref q_exponents, .int x_count, .ref q_byElement, .ref q_byLetter, .ref q_hullByLetter, .int x_settled, .ref q_minors, .ref q_knownPower])), (q_exponents, .inl (k_exponents, 16, .inl x_exponents)), (q_knownPower, .inr (1, [.ref q_knownPower_rest, .ref q_knownPower_shares, .int x_knownPower_known]))] → va_S A s.heap H locs → lv_has ls 2 [(0, .ref q_this), (1, .int u_1)] → W p l e rm_SR_element s m args below meth c H locs 0 0 (MQ below (qz_SR_element dC dI q_this q_exponents q_byElement q_byLetter q_hullByLetter q_minors q_knownPower q_knownPower_rest q_knownPower_shares k_exponents post A) args s 0 0 A) (F0 m 20 ls [])) ?_ H locs ls hP hD hS hl
  clear hw hP hD hS hl H locs ls
  intro x_exponents u_1 hw H locs ls hP hD hS hl
  unfold wp_SR_element_20b at hw
  refine lv_iload_n hx hb d_SR_element_20 rfl (lv_at hl 1 rfl) ?_
  refine lv_iconst (v := 4) hx hb d_SR_element_21 (by decide) ?_
  refine lv_icmp_ge (tgt := 45) hx hb d_SR_element_22 (by decide) (fun h_2 => ?_) (fun h_2 => ?_)
  · replace hw := hw.1 h_2
    refine lv_aload_n hx hb d_SR_element_45 rfl (lv_at hl 0 rfl) ?_
    refine lv_dup hx hb d_SR_element_46 rfl ?_
    refine va_get (D := (dC, dI)) (ci := 3) (v := .int x_count) (C := "StructureRows") (T := T_SR) (N := 8) hx hb hts in_SR hown hK hP 0 rfl rfl 1 (by decide) (hts _ tw_106) (fun _ h9 => h9) rfl d_SR_element_47 ?_
    refine lv_iconst (v := 1) hx hb d_SR_element_50 (by decide) ?_
    refine lv_iadd hx hb d_SR_element_51 ?_
    refine lv_topi (fun v_3 ev_3 => ?_)
    replace hw := hw v_3 ev_3
    refine va_put (D := (dC, dI)) (ci := 3) (v := .int v_3) (ty := .int) (C := "StructureRows") (T := T_SR) (N := 8) hx hb hts in_SR ty_SR tyok_SR nm_SR hown hK hP hD hS 0 rfl rfl 1 (by decide) (hts _ tw_106) (fun _ h9 => h9) rfl (by decide +kernel) rfl rfl (Nat.le_of_ble_eq_true rfl) d_SR_element_52 (fun H locs hP hD hS => ?_)
    replace hP : va_P (dC, dI) zz_cl [(q_this, .inr (3, [.ref q_exponents, .int v_3, .ref q_byElement, .ref q_byLetter, .ref q_hullByLetter, .int x_settled, .ref q_minors, .ref q_knownPower])), (q_exponents, .inl (k_exponents, 16, .inl x_exponents)), (q_knownPower, .inr (1, [.ref q_knownPower_rest, .ref q_knownPower_shares, .int x_knownPower_known]))] H := hP
    replace hD : va_D A [(q_this, .inr (3, [.ref q_exponents, .int v_3, .ref q_byElement, .ref q_byLetter, .ref q_hullByLetter, .int x_settled, .ref q_minors, .ref q_knownPower])), (q_exponents, .inl (k_exponents, 16, .inl x_exponents)), (q_knownPower, .inr (1, [.ref q_knownPower_rest, .ref q_knownPower_shares, .int x_knownPower_known]))] := hD
    refine lv_aload_n hx hb d_SR_element_55 rfl (lv_at hl 0 rfl) ?_
    refine go_SR_forgetAnswers (wr := [(q_exponents, .inl (k_exponents, 16, .inl x_exponents))]) ⟨hx, hb, hml, hown, hts⟩ (zz_cwV 0 hts tw_219 tw_216 tw_218 tw_9 tw_31 ⟨by decide, by decide, by decide +kernel⟩ ⟨Nat.le_of_ble_eq_true rfl, Nat.le_of_ble_eq_true rfl⟩) hK hP hD hS hA [0, 2] [1] [] rfl rfl (by decide) rfl (by decide) (by decide) rfl hw hl.1 (Nat.le_of_ble_eq_true rfl) d_SR_element_56 ⟨Nat.le_of_ble_eq_true rfl, Nat.le_of_ble_eq_true rfl⟩ (fun m_4 m_5 H locs hw hP hD hS => ?_)
    replace hP : va_P (dC, dI) zz_cl [(q_exponents, .inl (k_exponents, 16, .inl x_exponents)), (q_this, .inr (3, [.ref q_exponents, .int v_3, .ref q_byElement, .ref q_byLetter, .ref q_hullByLetter, .int m_4, .ref q_minors, .ref q_knownPower])), (q_knownPower, .inr (1, [.ref q_knownPower_rest, .ref q_knownPower_shares, .int m_5]))] H := hP
    replace hD : va_D A [(q_exponents, .inl (k_exponents, 16, .inl x_exponents)), (q_this, .inr (3, [.ref q_exponents, .int v_3, .ref q_byElement, .ref q_byLetter, .ref q_hullByLetter, .int m_4, .ref q_minors, .ref q_knownPower])), (q_knownPower, .inr (1, [.ref q_knownPower_rest, .ref q_knownPower_shares, .int m_5]))] := hD
    refine lv_aload_n hx hb d_SR_element_59 rfl (lv_at hl 0 rfl) ?_
    refine va_get (D := (dC, dI)) (ci := 3) (v := .int v_3) (C := "StructureRows") (T := T_SR) (N := 8) hx hb hts in_SR hown hK hP 1 rfl rfl 1 (by decide) (hts _ tw_106) (fun _ h9 => h9) rfl d_SR_element_60 ?_
    refine lv_iconst (v := 1) hx hb d_SR_element_63 (by decide) ?_
    refine lv_isub hx hb d_SR_element_64 ?_
    exact W.iret (v := v_3 - 1) hx hb hr (fun t ht hW => ⟨⟨v_3 - 1, (v_3, m_4, x_exponents, m_5), rfl, hw, by rw [ht]; exact hP.sub [1, 0, 2] rfl, va_K.moved hW.alike hK, hD.sub [1, 0, 2] (by decide) rfl⟩, hS.F ht⟩) hS.2.2 d_SR_element_65
  · replace hw := hw.2 h_2
    refine lv_aload_n hx hb d_SR_element_25 rfl (lv_at hl 0 rfl) ?_
    refine va_get (D := (dC, dI)) (ci := 3) (v := .ref q_exponents) (C := "StructureRows") (T := T_SR) (N := 8) hx hb hts in_SR hown hK hP 0 rfl rfl 0 (by decide) (hts _ tw_105) (fun _ h9 => h9) rfl d_SR_element_26 ?_
    refine lv_aload_n hx hb d_SR_element_29 rfl (lv_at hl 0 rfl) ?_
    refine va_get (D := (dC, dI)) (ci := 3) (v := .int x_count) (C := "StructureRows") (T := T_SR) (N := 8) hx hb hts in_SR hown hK hP 0 rfl rfl 1 (by decide) (hts _ tw_106) (fun _ h9 => h9) rfl d_SR_element_30 ?_
    refine lv_iconst (v := 4) hx hb d_SR_element_33 (by decide) ?_
    refine lv_imul hx hb d_SR_element_34 ?_
    refine lv_iload_n hx hb d_SR_element_35 rfl (lv_at hl 1 rfl) ?_
    refine lv_iadd hx hb d_SR_element_36 ?_
    refine lv_iconst (v := 0) hx hb d_SR_element_37 (by decide) ?_
    obtain ⟨h_6, hw⟩ := hw
    obtain ⟨w_7, ew_7⟩ : ∃ y : Nat → Int32, y = upd x_exponents ((x_count * 4) + u_1).toNatClampNeg 0 := ⟨_, rfl⟩
    replace hw := hw w_7 ew_7
    refine va_iast hx hb hK hP hD hS 1 0 rfl rfl h_6 d_SR_element_38 (fun H locs hP hD hS => ?_)
    rw [← ew_7] at hP hD
    replace hP : va_P (dC, dI) zz_cl [(q_this, .inr (3, [.ref q_exponents, .int x_count, .ref q_byElement, .ref q_byLetter, .ref q_hullByLetter, .int x_settled, .ref q_minors, .ref q_knownPower])), (q_exponents, .inl (k_exponents, 16, .inl w_7)), (q_knownPower, .inr (1, [.ref q_knownPower_rest, .ref q_knownPower_shares, .int x_knownPower_known]))] H := hP
    replace hD : va_D A [(q_this, .inr (3, [.ref q_exponents, .int x_count, .ref q_byElement, .ref q_byLetter, .ref q_hullByLetter, .int x_settled, .ref q_minors, .ref q_knownPower])), (q_exponents, .inl (k_exponents, 16, .inl w_7)), (q_knownPower, .inr (1, [.ref q_knownPower_rest, .ref q_knownPower_shares, .int x_knownPower_known]))] := hD
    obtain ⟨v_8, ev_8⟩ : ∃ y : Int32, y = u_1 + 1 := ⟨_, rfl⟩
    replace hw := hw v_8 ev_8
    refine lv_iinc (v := v_8) (lv' := [(1, .int v_8), (0, .ref q_this)]) hx hb d_SR_element_39 hl (k := 1) rfl (by rw [ev_8]; rfl) (by decide) rfl (fun ls hl => ?_)
    refine lv_goto (tgt := 20) hx hb d_SR_element_42 (by decide) ?_
    exact hw H locs ls hP hD hS (lv_sub hl [1, 0] rfl)
def wp_SR_element (x_count : Int32) (x_settled : Int32) (x_exponents : Nat → Int32) (x_knownPower_known : Int32)  (post : Int32 → Int32 → Int32 → (Nat → Int32) → Int32 → Prop) : Prop := (x_count < 4 → (wp_SR_element_20 x_count x_settled x_knownPower_known post x_exponents 0)) ∧ (¬ x_count < 4 → (False))
set_option maxHeartbeats 4000000 in
set_option maxRecDepth 100000 in
theorem c_SR_element (l : Launch) (dC : Nat → ClassId) (dI : Nat → Nat → Nat) (q_this q_exponents q_byElement q_byLetter q_hullByLetter q_minors q_knownPower q_knownPower_rest q_knownPower_shares : Nat) (k_exponents : ClassId) (sz : Nat) (x_count : Int32) (x_settled : Int32) (x_exponents : Nat → Int32) (x_knownPower_known : Int32)  (post : Int32 → Int32 → Int32 → (Nat → Int32) → Int32 → Prop) (hw : wp_SR_element x_count x_settled x_exponents x_knownPower_known post) : Met l y_SR_element (zz_w y_SR_element b_SR_element 2 (some .int)) rm_SR_element (va_Pc [.ref q_this] (fun U => U.heap.size = sz ∧ va_P (dC, dI) zz_cl [(q_this, .inr (3, [.ref q_exponents, .int x_count, .ref q_byElement, .ref q_byLetter, .ref q_hullByLetter, .int x_settled, .ref q_minors, .ref q_knownPower])), (q_exponents, .inl (k_exponents, 16, .inl x_exponents)), (q_knownPower, .inr (1, [.ref q_knownPower_rest, .ref q_knownPower_shares, .int x_knownPower_known]))] U.heap ∧ va_K (dC, dI) zz_cl [(k_exponents, .int)] U ∧ va_D (fun _ => True) [(q_this, .inr (3, [.ref q_exponents, .int x_count, .ref q_byElement, .ref q_byLetter, .ref q_hullByLetter, .int x_settled, .ref q_minors, .ref q_knownPower])), (q_exponents, .inl (k_exponents, 16, .inl x_exponents)), (q_knownPower, .inr (1, [.ref q_knownPower_rest, .ref q_knownPower_shares, .int x_knownPower_known]))])) (qz_SR_element dC dI q_this q_exponents q_byElement q_byLetter q_hullByLetter q_minors q_knownPower q_knownPower_rest q_knownPower_shares k_exponents post (va_A [(q_this, .inr (3, [.ref q_exponents, .int x_count, .ref q_byElement, .ref q_byLetter, .ref q_hullByLetter, .int x_settled, .ref q_minors, .ref q_knownPower])), (q_exponents, .inl (k_exponents, 16, .inl x_exponents)), (q_knownPower, .inr (1, [.ref q_knownPower_rest, .ref q_knownPower_shares, .int x_knownPower_known]))] sz)) 0 0 (va_A [(q_this, .inr (3, [.ref q_exponents, .int x_count, .ref q_byElement, .ref q_byLetter, .ref q_hullByLetter, .int x_settled, .ref q_minors, .ref q_knownPower])), (q_exponents, .inl (k_exponents, 16, .inl x_exponents)), (q_knownPower, .inr (1, [.ref q_knownPower_rest, .ref q_knownPower_shares, .int x_knownPower_known]))] sz) := by
  refine Met.ofW (cc := b_SR_element) (maxL := 2) (ret := (some .int)) (by decide) rfl ?_
  intro p e s m args below meth c s₁ B hml hv
  obtain ⟨rfl, hsz, hP, hK, hD0⟩ := hv
  have hx := B.exec
  have hb := B.bytes
  have hr := B.returns
  have hts0 := atoms_spec (ws := (zz_w y_SR_element b_SR_element 2 (some .int))) B.pre
  have hts : ∀ w ∈ zz_GW, w.before _ s = true := fun w h => hts0 w (List.mem_cons_of_mem _ h)
  clear hts0
  have hown : s.vm.findClass "StructureRows" = some m.cls := findClass_of_methodNamed B.named
  have hlocks := B.notSynchronized
  have C0 : cx_SR_element p s m _ meth c := ⟨hx, hb, hr, hml, hown, hts, hlocks⟩
  subst hsz
  have hD := hD0.self (sz := s.heap.size)
  generalize hAe : va_A [(q_this, .inr (3, [.ref q_exponents, .int x_count, .ref q_byElement, .ref q_byLetter, .ref q_hullByLetter, .int x_settled, .ref q_minors, .ref q_knownPower])), (q_exponents, .inl (k_exponents, 16, .inl x_exponents)), (q_knownPower, .inr (1, [.ref q_knownPower_rest, .ref q_knownPower_shares, .int x_knownPower_known]))] s.heap.size = A at hD ⊢
  have hA : ∀ q : Nat, s.heap.size ≤ q → A q := fun q h => by rw [← hAe]; exact Or.inr h
  clear hAe hD0
  have hS : va_S A s.heap s.heap [] := va_S.rf
  have hl := lv_entry ([.ref q_this]) (n := 2) (Nat.le_of_ble_eq_true rfl)
  rw [lg_entry_eq]
  generalize (lg_sl ([.ref q_this]) ++ List.replicate (2 - (lg_sl ([.ref q_this])).length) Slot.unset).toArray = ls at hl ⊢
  replace hl : lv_has ls 2 [(0, .ref q_this)] := hl
  unfold wp_SR_element at hw
  change W p l e rm_SR_element s m _ below meth c s.heap [] 0 0 _ _
  refine lv_aload_n hx hb d_SR_element_0 rfl (lv_at hl 0 rfl) ?_
  refine va_get (D := (dC, dI)) (ci := 3) (v := .int x_count) (C := "StructureRows") (T := T_SR) (N := 8) hx hb hts in_SR hown hK hP 0 rfl rfl 1 (by decide) (hts _ tw_106) (fun _ h9 => h9) rfl d_SR_element_1 ?_
  refine lv_iconst (v := 4) hx hb d_SR_element_4 (by decide) ?_
  refine lv_icmp_lt (tgt := 18) hx hb d_SR_element_5 (by decide) (fun h_1 => ?_) (fun h_1 => ?_)
  · replace hw := hw.1 h_1
    refine lv_iconst (v := 0) hx hb d_SR_element_18 (by decide) ?_
    refine lv_istore_n (lv' := [(1, .int 0), (0, .ref q_this)]) hx hb d_SR_element_19 rfl hl (by decide) rfl (fun ls hl => ?_)
    exact k_SR_element_20 C0 hA hK hw hP hD hS (lv_sub hl [1, 0] rfl)
  · replace hw := hw.2 h_1
    exact hw.elim
set_option maxHeartbeats 4000000 in
set_option maxRecDepth 100000 in
theorem go_SR_element {p : Program} {l : Launch} {e : Env} {R : Room} {s : State} {m : MethodId} {args : Array Value} {below : List Frame} {meth : Method} {c : Code} {H : Heap} {locs : List Loc} {cells slots : Nat} {Q : State → Prop} {cc : ByteArray} {nL : Nat} {Ts : List Cond} {own : String} {index : Nat} {A0 : Nat → Prop} {H0 : Heap} {dC : Nat → ClassId} {dI : Nat → Nat → Nat} {ws wr : va_W} {tys : List (ClassId × FieldType)} {q_this q_exponents q_byElement q_byLetter q_hullByLetter q_minors q_knownPower q_knownPower_rest q_knownPower_shares : Nat} {k_exponents : ClassId} {x_count : Int32} {x_settled : Int32} {x_exponents : Nat → Int32} {x_knownPower_known : Int32}  {post : Int32 → Int32 → Int32 → (Nat → Int32) → Int32 → Prop} (S : CallFix p m c cc nL s args Ts own) (cw : CallW R s args own "StructureRows" index y_SR_element b_SR_element 2 (some .int) (zz_w y_SR_element b_SR_element 2 (some .int)) rm_SR_element 0 0 0) (hK : va_K (dC, dI) zz_cl tys s) (hP : va_P (dC, dI) zz_cl ws H) (hD : va_D A0 ws) (hS : va_S A0 H0 H locs) (hA : ∀ q, H0.size ≤ q → A0 q) (isC isR kt : List Nat) (h1 : isC.filterMap (fun i => ws[i]?) = [(q_this, .inr (3, [.ref q_exponents, .int x_count, .ref q_byElement, .ref q_byLetter, .ref q_hullByLetter, .int x_settled, .ref q_minors, .ref q_knownPower])), (q_exponents, .inl (k_exponents, 16, .inl x_exponents)), (q_knownPower, .inr (1, [.ref q_knownPower_rest, .ref q_knownPower_shares, .int x_knownPower_known]))]) (h2 : isC.map (fun i => ws[i]?) = ([(q_this, .inr (3, [.ref q_exponents, .int x_count, .ref q_byElement, .ref q_byLetter, .ref q_hullByLetter, .int x_settled, .ref q_minors, .ref q_knownPower])), (q_exponents, .inl (k_exponents, 16, .inl x_exponents)), (q_knownPower, .inr (1, [.ref q_knownPower_rest, .ref q_knownPower_shares, .int x_knownPower_known]))] : va_W).map some) (h3 : va_nd isC = true) (h4 : isR.map (fun i => ws[i]?) = wr.map some) (h5 : va_nd isR = true) (h6 : ∀ i ∈ isR, i ∉ isC) (h7 : kt.filterMap (fun i => tys[i]?) = [(k_exponents, .int)]) (hw : wp_SR_element x_count x_settled x_exponents x_knownPower_known post) {pc : Nat} {ls : Array Slot} {rest : List Value} (hsize : ls.size = nL) (hrest : (rest.map fun v => v.category).sum ≤ 8) (hdg : decode cc pc = .ok (.invokevirtual index, 3)) (hf : cells + 0 ≤ R.cells ∧ slots + 0 ≤ R.slots) (kk : ∀ (r : Int32) (m0 : Int32) (m1 : Int32) (m2 : Nat → Int32) (m3 : Int32) (H1 : Heap) (locs1 : List Loc), post r m0 m1 m2 m3 → va_P (dC, dI) zz_cl (wr ++ [(q_this, .inr (3, [.ref q_exponents, .int m0, .ref q_byElement, .ref q_byLetter, .ref q_hullByLetter, .int m1, .ref q_minors, .ref q_knownPower])), (q_exponents, .inl (k_exponents, 16, .inl m2)), (q_knownPower, .inr (1, [.ref q_knownPower_rest, .ref q_knownPower_shares, .int m3]))]) H1 → va_D A0 (wr ++ [(q_this, .inr (3, [.ref q_exponents, .int m0, .ref q_byElement, .ref q_byLetter, .ref q_hullByLetter, .int m1, .ref q_minors, .ref q_knownPower])), (q_exponents, .inl (k_exponents, 16, .inl m2)), (q_knownPower, .inr (1, [.ref q_knownPower_rest, .ref q_knownPower_shares, .int m3]))]) → va_S A0 H0 H1 locs1 → W p l e R s m args below meth c H1 locs1 (cells + 0) (slots + 0) Q (F0 m (pc + 3) ls (.int r :: rest))) : W p l e R s m args below meth c H locs cells slots Q (F0 m pc ls (.ref q_this :: rest)) := by
  have hPc := hP.sub (ws' := [(q_this, .inr (3, [.ref q_exponents, .int x_count, .ref q_byElement, .ref q_byLetter, .ref q_hullByLetter, .int x_settled, .ref q_minors, .ref q_knownPower])), (q_exponents, .inl (k_exponents, 16, .inl x_exponents)), (q_knownPower, .inr (1, [.ref q_knownPower_rest, .ref q_knownPower_shares, .int x_knownPower_known]))]) isC h1
  have hDc := hD.sub (ws' := [(q_this, .inr (3, [.ref q_exponents, .int x_count, .ref q_byElement, .ref q_byLetter, .ref q_hullByLetter, .int x_settled, .ref q_minors, .ref q_knownPower])), (q_exponents, .inl (k_exponents, 16, .inl x_exponents)), (q_knownPower, .inr (1, [.ref q_knownPower_rest, .ref q_knownPower_shares, .int x_knownPower_known]))]) isC h3 h2
  have hKc := hK.sub (tys' := [(k_exponents, .int)]) kt h7
  have hFc := va_free (wc := [(q_this, .inr (3, [.ref q_exponents, .int x_count, .ref q_byElement, .ref q_byLetter, .ref q_hullByLetter, .int x_settled, .ref q_minors, .ref q_knownPower])), (q_exponents, .inl (k_exponents, 16, .inl x_exponents)), (q_knownPower, .inr (1, [.ref q_knownPower_rest, .ref q_knownPower_shares, .int x_knownPower_known]))]) hD hS hA isC h2
  refine va_calli (va_runV (As := []) (rest := rest) S (c_SR_element l dC dI q_this q_exponents q_byElement q_byLetter q_hullByLetter q_minors q_knownPower q_knownPower_rest q_knownPower_shares k_exponents H.size x_count x_settled x_exponents x_knownPower_known post hw) cw ⟨zz_blind, va_recv hKc hPc (ci := 3) (q0 := 0) rfl rfl, fun U hU hW => ⟨rfl, by rw [hU], by rw [hU]; exact hPc, va_K.moved hW.alike hKc, hDc.weaken (fun _ _ _ _ => trivial)⟩⟩ rfl rfl hsize rfl (lv_room hrest) hdg hf) hS (fun q _ h => hFc q h) hFc (fun r u t H1 locs ht hvm hw hB hz1 hk1 hS => ?_)
  obtain ⟨hP1, hK1, hD1⟩ := hB
  rw [ht] at hP1
  obtain ⟨hP2, hD2⟩ := va_join (wr := wr) (w1 := [(q_this, .inr (3, [.ref q_exponents, .int u.1, .ref q_byElement, .ref q_byLetter, .ref q_hullByLetter, .int u.2.1, .ref q_minors, .ref q_knownPower])), (q_exponents, .inl (k_exponents, 16, .inl u.2.2.1)), (q_knownPower, .inr (1, [.ref q_knownPower_rest, .ref q_knownPower_shares, .int u.2.2.2]))]) hP hD isC isR h2 h4 h5 h6 hk1 hFc hP1 hD1
  exact kk r u.1 u.2.1 u.2.2.1 u.2.2.2 H1 locs hw hP2 hD2 hS
abbrev rm_SR_elementx : Room := { frames := 6, cells := 1, slots := 6, locals := 100 }
abbrev xz_SR_elementx (dC : Nat → ClassId) (dI : Nat → Nat → Nat) (q_this q_exponents q_byElement q_byLetter q_hullByLetter q_minors q_knownPower q_knownPower_rest q_knownPower_shares : Nat) (k_exponents : ClassId)  (px : String → Int32 → Int32 → (Nat → Int32) → Int32 → Prop) (A : Nat → Prop) : String → State → State → Prop := vx_X (fun (u : String × (Int32 × Int32 × (Nat → Int32) × Int32)) => px u.1 u.2.1 u.2.2.1 u.2.2.2.1 u.2.2.2.2) (fun (E9 : String) (u : String × (Int32 × Int32 × (Nat → Int32) × Int32)) (t : State) => u.1 = E9 ∧ va_P (dC, dI) zz_cl [(q_this, .inr (3, [.ref q_exponents, .int u.2.1, .ref q_byElement, .ref q_byLetter, .ref q_hullByLetter, .int u.2.2.1, .ref q_minors, .ref q_knownPower])), (q_exponents, .inl (k_exponents, 16, .inl u.2.2.2.1)), (q_knownPower, .inr (1, [.ref q_knownPower_rest, .ref q_knownPower_shares, .int u.2.2.2.2]))] t.heap ∧ va_K (dC, dI) zz_cl [(k_exponents, .int)] t ∧ va_D A [(q_this, .inr (3, [.ref q_exponents, .int u.2.1, .ref q_byElement, .ref q_byLetter, .ref q_hullByLetter, .int u.2.2.1, .ref q_minors, .ref q_knownPower])), (q_exponents, .inl (k_exponents, 16, .inl u.2.2.2.1)), (q_knownPower, .inr (1, [.ref q_knownPower_rest, .ref q_knownPower_shares, .int u.2.2.2.2]))]) A
def cx_SR_elementx (p : Program) (l : Launch) (s : State) (m : MethodId) (args : Array Value) (meth : Method) (c : Code) : Prop := p.tables.exec = Jvm.exec ∧ c.code = b_SR_element ∧ meth.sig.returnType = (some .int) ∧ c.maxLocals = 2 ∧ s.vm.findClass "StructureRows" = some m.cls ∧ (∀ w ∈ zz_GW, w.before args s = true) ∧ meth.locks = false ∧ (∀ x ∈ c.exceptionTable.toList, False) ∧ l.stackTraces = false
def wp_SR_elementx (x_count : Int32) (x_settled : Int32) (x_exponents : Nat → Int32) (x_knownPower_known : Int32)  (px : String → Int32 → Int32 → (Nat → Int32) → Int32 → Prop) : Prop := (x_count < 4 → (False)) ∧ (¬ x_count < 4 → (px "java/lang/IllegalStateException" x_count x_settled x_exponents x_knownPower_known))
set_option maxHeartbeats 4000000 in
set_option maxRecDepth 100000 in
theorem c_SR_elementx (l : Launch) (hl9 : l.stackTraces = false) (sa : Nat → Nat) (dC : Nat → ClassId) (dI : Nat → Nat → Nat) (q_this q_exponents q_byElement q_byLetter q_hullByLetter q_minors q_knownPower q_knownPower_rest q_knownPower_shares : Nat) (k_exponents : ClassId) (sz : Nat) (x_count : Int32) (x_settled : Int32) (x_exponents : Nat → Int32) (x_knownPower_known : Int32)  (px : String → Int32 → Int32 → (Nat → Int32) → Int32 → Prop) (hw : wp_SR_elementx x_count x_settled x_exponents x_knownPower_known px) : vx_Met l y_SR_element (zz_w y_SR_element b_SR_element 2 (some .int)) rm_SR_elementx (va_Pc [.ref q_this] (fun U => U.heap.size = sz ∧ va_P (dC, dI) zz_cl [(q_this, .inr (3, [.ref q_exponents, .int x_count, .ref q_byElement, .ref q_byLetter, .ref q_hullByLetter, .int x_settled, .ref q_minors, .ref q_knownPower])), (q_exponents, .inl (k_exponents, 16, .inl x_exponents)), (q_knownPower, .inr (1, [.ref q_knownPower_rest, .ref q_knownPower_shares, .int x_knownPower_known]))] U.heap ∧ va_K (dC, dI) zz_cl [(k_exponents, .int)] U ∧ va_D (fun _ => True) [(q_this, .inr (3, [.ref q_exponents, .int x_count, .ref q_byElement, .ref q_byLetter, .ref q_hullByLetter, .int x_settled, .ref q_minors, .ref q_knownPower])), (q_exponents, .inl (k_exponents, 16, .inl x_exponents)), (q_knownPower, .inr (1, [.ref q_knownPower_rest, .ref q_knownPower_shares, .int x_knownPower_known]))] ∧ zz_X sa (va_A [(q_this, .inr (3, [.ref q_exponents, .int x_count, .ref q_byElement, .ref q_byLetter, .ref q_hullByLetter, .int x_settled, .ref q_minors, .ref q_knownPower])), (q_exponents, .inl (k_exponents, 16, .inl x_exponents)), (q_knownPower, .inr (1, [.ref q_knownPower_rest, .ref q_knownPower_shares, .int x_knownPower_known]))] sz) U)) (va_Qv (fun (_ : Unit) => False) (fun _ _ => True) (va_A [(q_this, .inr (3, [.ref q_exponents, .int x_count, .ref q_byElement, .ref q_byLetter, .ref q_hullByLetter, .int x_settled, .ref q_minors, .ref q_knownPower])), (q_exponents, .inl (k_exponents, 16, .inl x_exponents)), (q_knownPower, .inr (1, [.ref q_knownPower_rest, .ref q_knownPower_shares, .int x_knownPower_known]))] sz)) (xz_SR_elementx dC dI q_this q_exponents q_byElement q_byLetter q_hullByLetter q_minors q_knownPower q_knownPower_rest q_knownPower_shares k_exponents px (va_A [(q_this, .inr (3, [.ref q_exponents, .int x_count, .ref q_byElement, .ref q_byLetter, .ref q_hullByLetter, .int x_settled, .ref q_minors, .ref q_knownPower])), (q_exponents, .inl (k_exponents, 16, .inl x_exponents)), (q_knownPower, .inr (1, [.ref q_knownPower_rest, .ref q_knownPower_shares, .int x_knownPower_known]))] sz)) 1 6 (va_A [(q_this, .inr (3, [.ref q_exponents, .int x_count, .ref q_byElement, .ref q_byLetter, .ref q_hullByLetter, .int x_settled, .ref q_minors, .ref q_knownPower])), (q_exponents, .inl (k_exponents, 16, .inl x_exponents)), (q_knownPower, .inr (1, [.ref q_knownPower_rest, .ref q_knownPower_shares, .int x_knownPower_known]))] sz) := by
  refine vx_ofW (cc := b_SR_element) (maxL := 2) (ret := (some .int)) (by decide) rfl ?_
  intro p e s m args below meth c s₁ B hml hne hv
  obtain ⟨rfl, hsz, hP, hK, hD0, hX⟩ := hv
  have hx := B.exec
  have hb := B.bytes
  have hr := B.returns
  have hts0 := atoms_spec (ws := (zz_w y_SR_element b_SR_element 2 (some .int))) B.pre
  have hts : ∀ w ∈ zz_GW, w.before _ s = true := fun w h => hts0 w (List.mem_cons_of_mem _ h)
  clear hts0
  have hown : s.vm.findClass "StructureRows" = some m.cls := findClass_of_methodNamed B.named
  have hlocks := B.notSynchronized
  have C0 : cx_SR_elementx p l s m _ meth c := ⟨hx, hb, hr, hml, hown, hts, hlocks, hne, hl9⟩
  subst hsz
  have hD := hD0.self (sz := s.heap.size)
  generalize hAe : va_A [(q_this, .inr (3, [.ref q_exponents, .int x_count, .ref q_byElement, .ref q_byLetter, .ref q_hullByLetter, .int x_settled, .ref q_minors, .ref q_knownPower])), (q_exponents, .inl (k_exponents, 16, .inl x_exponents)), (q_knownPower, .inr (1, [.ref q_knownPower_rest, .ref q_knownPower_shares, .int x_knownPower_known]))] s.heap.size = A at hD hX ⊢
  have hA : ∀ q : Nat, s.heap.size ≤ q → A q := fun q h => by rw [← hAe]; exact Or.inr h
  clear hAe hD0
  have hS : va_S A s.heap s.heap [] := va_S.rf
  have hl := lv_entry ([.ref q_this]) (n := 2) (Nat.le_of_ble_eq_true rfl)
  rw [lg_entry_eq]
  generalize (lg_sl ([.ref q_this]) ++ List.replicate (2 - (lg_sl ([.ref q_this])).length) Slot.unset).toArray = ls at hl ⊢
  replace hl : lv_has ls 2 [(0, .ref q_this)] := hl
  unfold wp_SR_elementx at hw
  change W p l e rm_SR_elementx s m _ below meth c s.heap [] 0 0 _ _
  refine lv_aload_n hx hb d_SR_element_0 rfl (lv_at hl 0 rfl) ?_
  refine va_get (D := (dC, dI)) (ci := 3) (v := .int x_count) (C := "StructureRows") (T := T_SR) (N := 8) hx hb hts in_SR hown hK hP 0 rfl rfl 1 (by decide) (hts _ tw_106) (fun _ h9 => h9) rfl d_SR_element_1 ?_
  refine lv_iconst (v := 4) hx hb d_SR_element_4 (by decide) ?_
  refine lv_icmp_lt (tgt := 18) hx hb d_SR_element_5 (by decide) (fun h_1 => ?_) (fun h_1 => ?_)
  · replace hw := hw.1 h_1
    exact hw.elim
  · replace hw := hw.2 h_1
    exact vx_throwS (own := "StructureRows") (cls := "java/lang/IllegalStateException") (names := zz_sup) hx hb hl9 hown (by decide +kernel) (by decide +kernel) (hts _ tw_232) (hts _ tw_39) hX.2.2.2.1.1 (zz_hat48 hts hX) (by decide +kernel) hX.2.2.2.2.2.1 hX.2.2.2.2.2.2 hS (hl.1.trans hml.symm) d_SR_element_8 d_SR_element_11 d_SR_element_12 d_SR_element_14 d_SR_element_17 (fun x hx => (hne x hx).elim) (Nat.le_of_ble_eq_true rfl) (Nat.le_of_ble_eq_true rfl) (Nat.le_of_ble_eq_true rfl) (Nat.le_of_ble_eq_true rfl) hlocks (fun t ha hsz9 hq9 => ⟨("java/lang/IllegalStateException", (x_count, x_settled, x_exponents, x_knownPower_known)), hw, ⟨rfl, va_P.kept hP (fun k q hk => hq9 q.1 (va_at.lt (hP k q hk))), va_K.moved ha hK, hD⟩, zz_F hS hsz9 hq9⟩) hS.2.2 (Nat.le_of_ble_eq_true rfl) (Nat.le_of_ble_eq_true rfl)
set_option maxHeartbeats 4000000 in
set_option maxRecDepth 100000 in
theorem go_SR_elementx {p : Program} {l : Launch} {e : Env} {R : Room} {s : State} {m : MethodId} {args : Array Value} {below : List Frame} {meth : Method} {c : Code} {H : Heap} {locs : List Loc} {cells slots : Nat} {Q : State → Prop} {cc : ByteArray} {nL : Nat} {Ts : List Cond} {own : String} {index : Nat} {A0 : Nat → Prop} {dC : Nat → ClassId} {dI : Nat → Nat → Nat} {ws wr : va_W} {tys : List (ClassId × FieldType)} {q_this q_exponents q_byElement q_byLetter q_hullByLetter q_minors q_knownPower q_knownPower_rest q_knownPower_shares : Nat} {k_exponents : ClassId} {sa : Nat → Nat} {x_count : Int32} {x_settled : Int32} {x_exponents : Nat → Int32} {x_knownPower_known : Int32}  {px : String → Int32 → Int32 → (Nat → Int32) → Int32 → Prop} (S : CallFix p m c cc nL s args Ts own) (cw : CallW R s args own "StructureRows" index y_SR_element b_SR_element 2 (some .int) (zz_w y_SR_element b_SR_element 2 (some .int)) rm_SR_elementx 1 6 0) (hl9 : l.stackTraces = false) (hX : zz_X sa A0 s) (hK : va_K (dC, dI) zz_cl tys s) (hP : va_P (dC, dI) zz_cl ws H) (hD : va_D A0 ws) (hS : va_S A0 s.heap H locs) (hA : ∀ q, s.heap.size ≤ q → A0 q) (isC isR kt : List Nat) (h1 : isC.filterMap (fun i => ws[i]?) = [(q_this, .inr (3, [.ref q_exponents, .int x_count, .ref q_byElement, .ref q_byLetter, .ref q_hullByLetter, .int x_settled, .ref q_minors, .ref q_knownPower])), (q_exponents, .inl (k_exponents, 16, .inl x_exponents)), (q_knownPower, .inr (1, [.ref q_knownPower_rest, .ref q_knownPower_shares, .int x_knownPower_known]))]) (h2 : isC.map (fun i => ws[i]?) = ([(q_this, .inr (3, [.ref q_exponents, .int x_count, .ref q_byElement, .ref q_byLetter, .ref q_hullByLetter, .int x_settled, .ref q_minors, .ref q_knownPower])), (q_exponents, .inl (k_exponents, 16, .inl x_exponents)), (q_knownPower, .inr (1, [.ref q_knownPower_rest, .ref q_knownPower_shares, .int x_knownPower_known]))] : va_W).map some) (h3 : va_nd isC = true) (h4 : isR.map (fun i => ws[i]?) = wr.map some) (h5 : va_nd isR = true) (h6 : ∀ i ∈ isR, i ∉ isC) (h7 : kt.filterMap (fun i => tys[i]?) = [(k_exponents, .int)]) (hw : wp_SR_elementx x_count x_settled x_exponents x_knownPower_known px) {pc : Nat} {ls : Array Slot} {rest : List Value} (hsize : ls.size = nL) (hrest : (rest.map fun v => v.category).sum ≤ 8) (hdg : decode cc pc = .ok (.invokevirtual index, 3)) (hf : cells + 1 ≤ R.cells ∧ slots + 6 ≤ R.slots) (kx : ∀ (E9 : String) (m0 : Int32) (m1 : Int32) (m2 : Nat → Int32) (m3 : Int32) (ce : Cell) (q9 : Addr) (H1 : Heap) (locs1 : List Loc), px E9 m0 m1 m2 m3 → va_P (dC, dI) zz_cl (wr ++ [(q_this, .inr (3, [.ref q_exponents, .int m0, .ref q_byElement, .ref q_byLetter, .ref q_hullByLetter, .int m1, .ref q_minors, .ref q_knownPower])), (q_exponents, .inl (k_exponents, 16, .inl m2)), (q_knownPower, .inr (1, [.ref q_knownPower_rest, .ref q_knownPower_shares, .int m3]))]) H1 → va_D A0 (wr ++ [(q_this, .inr (3, [.ref q_exponents, .int m0, .ref q_byElement, .ref q_byLetter, .ref q_hullByLetter, .int m1, .ref q_minors, .ref q_knownPower])), (q_exponents, .inl (k_exponents, 16, .inl m2)), (q_knownPower, .inr (1, [.ref q_knownPower_rest, .ref q_knownPower_shares, .int m3]))]) → va_S A0 s.heap H1 locs1 → H1[q9]? = some ce → ce.vm = .none → s.vm.findClass E9 = some ce.cls → vx_W p l e R s m args below meth c H1 locs1 (cells + 1) (slots + 6) Q (F0 m pc ls rest) q9) : W p l e R s m args below meth c H locs cells slots Q (F0 m pc ls (.ref q_this :: rest)) := by
  have hPc := hP.sub (ws' := [(q_this, .inr (3, [.ref q_exponents, .int x_count, .ref q_byElement, .ref q_byLetter, .ref q_hullByLetter, .int x_settled, .ref q_minors, .ref q_knownPower])), (q_exponents, .inl (k_exponents, 16, .inl x_exponents)), (q_knownPower, .inr (1, [.ref q_knownPower_rest, .ref q_knownPower_shares, .int x_knownPower_known]))]) isC h1
  have hDc := hD.sub (ws' := [(q_this, .inr (3, [.ref q_exponents, .int x_count, .ref q_byElement, .ref q_byLetter, .ref q_hullByLetter, .int x_settled, .ref q_minors, .ref q_knownPower])), (q_exponents, .inl (k_exponents, 16, .inl x_exponents)), (q_knownPower, .inr (1, [.ref q_knownPower_rest, .ref q_knownPower_shares, .int x_knownPower_known]))]) isC h3 h2
  have hKc := hK.sub (tys' := [(k_exponents, .int)]) kt h7
  have hFc := va_free (wc := [(q_this, .inr (3, [.ref q_exponents, .int x_count, .ref q_byElement, .ref q_byLetter, .ref q_hullByLetter, .int x_settled, .ref q_minors, .ref q_knownPower])), (q_exponents, .inl (k_exponents, 16, .inl x_exponents)), (q_knownPower, .inr (1, [.ref q_knownPower_rest, .ref q_knownPower_shares, .int x_knownPower_known]))]) hD hS hA isC h2
  refine vx_callv (vx_runV (As := []) (rest := rest) S (c_SR_elementx l hl9 sa dC dI q_this q_exponents q_byElement q_byLetter q_hullByLetter q_minors q_knownPower q_knownPower_rest q_knownPower_shares k_exponents H.size x_count x_settled x_exponents x_knownPower_known px hw) cw ⟨zz_blindX, va_recv hKc hPc (ci := 3) (q0 := 0) rfl rfl, fun U hU hW => ⟨rfl, by rw [hU], by rw [hU]; exact hPc, va_K.moved hW.alike hKc, hDc.weaken (fun _ _ _ _ => trivial), zz_X_to hX hS hFc hU hW⟩⟩ rfl rfl hsize rfl (lv_room hrest) hdg hf) hS (fun q _ h => hFc q h) hFc (fun q _ h => hFc q h) (fun E9 ce q9 u t H1 locs1 ht hvm hp hB hz1 hk1 hS1 hce hcv hcl => ?_) (fun u t H1 locs1 ht hvm hf9 hB hz1 hk1 hS1 => hf9.elim)
  obtain ⟨hE, hP1, hK1, hD1⟩ := hB
  rw [ht] at hP1
  obtain ⟨hP2, hD2⟩ := va_join (wr := wr) (w1 := [(q_this, .inr (3, [.ref q_exponents, .int u.2.1, .ref q_byElement, .ref q_byLetter, .ref q_hullByLetter, .int u.2.2.1, .ref q_minors, .ref q_knownPower])), (q_exponents, .inl (k_exponents, 16, .inl u.2.2.2.1)), (q_knownPower, .inr (1, [.ref q_knownPower_rest, .ref q_knownPower_shares, .int u.2.2.2.2]))]) hP hD isC isR h2 h4 h5 h6 hk1 hFc hP1 hD1
  subst hE
  exact kx u.1 u.2.1 u.2.2.1 u.2.2.2.1 u.2.2.2.2 ce q9 H1 locs1 hp hP2 hD2 hS1 hce hcv hcl
abbrev rm_SR_put : Room := { frames := 2, cells := 0, slots := 0, locals := 42 }
abbrev qz_SR_put (dC : Nat → ClassId) (dI : Nat → Nat → Nat) (q_this q_exponents q_byElement q_byLetter q_hullByLetter q_minors q_knownPower q_knownPower_rest q_knownPower_shares : Nat) (k_exponents : ClassId) (x_count : Int32) (post : Int32 → Int32 → (Nat → Int32) → Int32 → Prop) (A : Nat → Prop) : Array Value → State → Outcome → State → Prop := va_Qi (fun (r : Int32) (u : Int32 × (Nat → Int32) × Int32) => post r u.1 u.2.1 u.2.2) (fun (u : Int32 × (Nat → Int32) × Int32) (t : State) => va_P (dC, dI) zz_cl [(q_this, .inr (3, [.ref q_exponents, .int x_count, .ref q_byElement, .ref q_byLetter, .ref q_hullByLetter, .int u.1, .ref q_minors, .ref q_knownPower])), (q_exponents, .inl (k_exponents, 16, .inl u.2.1)), (q_knownPower, .inr (1, [.ref q_knownPower_rest, .ref q_knownPower_shares, .int u.2.2]))] t.heap ∧ va_K (dC, dI) zz_cl [(k_exponents, .int)] t ∧ va_D A [(q_this, .inr (3, [.ref q_exponents, .int x_count, .ref q_byElement, .ref q_byLetter, .ref q_hullByLetter, .int u.1, .ref q_minors, .ref q_knownPower])), (q_exponents, .inl (k_exponents, 16, .inl u.2.1)), (q_knownPower, .inr (1, [.ref q_knownPower_rest, .ref q_knownPower_shares, .int u.2.2]))]) A
def cx_SR_put (p : Program) (s : State) (m : MethodId) (args : Array Value) (meth : Method) (c : Code) : Prop := p.tables.exec = Jvm.exec ∧ c.code = b_SR_put ∧ meth.sig.returnType = (some .boolean) ∧ c.maxLocals = 5 ∧ s.vm.findClass "StructureRows" = some m.cls ∧ (∀ w ∈ zz_GW, w.before args s = true) ∧ meth.locks = false
def wp_SR_put (x_count : Int32) (x_settled : Int32) (x_exponents : Nat → Int32) (x_knownPower_known : Int32) (a_0 : Int32) (a_1 : Int32) (a_2 : Int32) (post : Int32 → Int32 → (Nat → Int32) → Int32 → Prop) : Prop := wp_SR_requireElement x_count x_settled a_0  (wp_SR_requireLetter a_1  (wp_SR_requireExponent a_2  (∀ v_1 : Int32, v_1 = (a_0 * 4) + a_1 → (vp_in v_1 16 ∧ ((¬ (x_exponents v_1.toNatClampNeg) = a_2 → (vp_in v_1 16 ∧ ∀ w_5 : Nat → Int32, w_5 = upd x_exponents v_1.toNatClampNeg a_2 → (wp_SR_forgetAnswers x_count x_settled x_knownPower_known (fun (m_6 : Int32) (m_7 : Int32) => (post 1 m_6 w_5 m_7))))) ∧ ((x_exponents v_1.toNatClampNeg) = a_2 → (post 0 x_settled x_exponents x_knownPower_known)))))))
set_option maxHeartbeats 4000000 in
set_option maxRecDepth 100000 in
theorem c_SR_put (l : Launch) (dC : Nat → ClassId) (dI : Nat → Nat → Nat) (q_this q_exponents q_byElement q_byLetter q_hullByLetter q_minors q_knownPower q_knownPower_rest q_knownPower_shares : Nat) (k_exponents : ClassId) (sz : Nat) (x_count : Int32) (x_settled : Int32) (x_exponents : Nat → Int32) (x_knownPower_known : Int32) (a_0 : Int32) (a_1 : Int32) (a_2 : Int32) (post : Int32 → Int32 → (Nat → Int32) → Int32 → Prop) (hw : wp_SR_put x_count x_settled x_exponents x_knownPower_known a_0 a_1 a_2 post) : Met l y_SR_put (zz_w y_SR_put b_SR_put 5 (some .boolean)) rm_SR_put (va_Pc [.ref q_this, .int a_0, .int a_1, .int a_2] (fun U => U.heap.size = sz ∧ va_P (dC, dI) zz_cl [(q_this, .inr (3, [.ref q_exponents, .int x_count, .ref q_byElement, .ref q_byLetter, .ref q_hullByLetter, .int x_settled, .ref q_minors, .ref q_knownPower])), (q_exponents, .inl (k_exponents, 16, .inl x_exponents)), (q_knownPower, .inr (1, [.ref q_knownPower_rest, .ref q_knownPower_shares, .int x_knownPower_known]))] U.heap ∧ va_K (dC, dI) zz_cl [(k_exponents, .int)] U ∧ va_D (fun _ => True) [(q_this, .inr (3, [.ref q_exponents, .int x_count, .ref q_byElement, .ref q_byLetter, .ref q_hullByLetter, .int x_settled, .ref q_minors, .ref q_knownPower])), (q_exponents, .inl (k_exponents, 16, .inl x_exponents)), (q_knownPower, .inr (1, [.ref q_knownPower_rest, .ref q_knownPower_shares, .int x_knownPower_known]))])) (qz_SR_put dC dI q_this q_exponents q_byElement q_byLetter q_hullByLetter q_minors q_knownPower q_knownPower_rest q_knownPower_shares k_exponents x_count post (va_A [(q_this, .inr (3, [.ref q_exponents, .int x_count, .ref q_byElement, .ref q_byLetter, .ref q_hullByLetter, .int x_settled, .ref q_minors, .ref q_knownPower])), (q_exponents, .inl (k_exponents, 16, .inl x_exponents)), (q_knownPower, .inr (1, [.ref q_knownPower_rest, .ref q_knownPower_shares, .int x_knownPower_known]))] sz)) 0 0 (va_A [(q_this, .inr (3, [.ref q_exponents, .int x_count, .ref q_byElement, .ref q_byLetter, .ref q_hullByLetter, .int x_settled, .ref q_minors, .ref q_knownPower])), (q_exponents, .inl (k_exponents, 16, .inl x_exponents)), (q_knownPower, .inr (1, [.ref q_knownPower_rest, .ref q_knownPower_shares, .int x_knownPower_known]))] sz) := by
  refine Met.ofW (cc := b_SR_put) (maxL := 5) (ret := (some .boolean)) (by decide) rfl ?_
  intro p e s m args below meth c s₁ B hml hv
  obtain ⟨rfl, hsz, hP, hK, hD0⟩ := hv
  have hx := B.exec
  have hb := B.bytes
  have hr := B.returns
  have hts0 := atoms_spec (ws := (zz_w y_SR_put b_SR_put 5 (some .boolean))) B.pre
  have hts : ∀ w ∈ zz_GW, w.before _ s = true := fun w h => hts0 w (List.mem_cons_of_mem _ h)
  clear hts0
  have hown : s.vm.findClass "StructureRows" = some m.cls := findClass_of_methodNamed B.named
  have hlocks := B.notSynchronized
  have C0 : cx_SR_put p s m _ meth c := ⟨hx, hb, hr, hml, hown, hts, hlocks⟩
  subst hsz
  have hD := hD0.self (sz := s.heap.size)
  generalize hAe : va_A [(q_this, .inr (3, [.ref q_exponents, .int x_count, .ref q_byElement, .ref q_byLetter, .ref q_hullByLetter, .int x_settled, .ref q_minors, .ref q_knownPower])), (q_exponents, .inl (k_exponents, 16, .inl x_exponents)), (q_knownPower, .inr (1, [.ref q_knownPower_rest, .ref q_knownPower_shares, .int x_knownPower_known]))] s.heap.size = A at hD ⊢
  have hA : ∀ q : Nat, s.heap.size ≤ q → A q := fun q h => by rw [← hAe]; exact Or.inr h
  clear hAe hD0
  have hS : va_S A s.heap s.heap [] := va_S.rf
  have hl := lv_entry ([.ref q_this, .int a_0, .int a_1, .int a_2]) (n := 5) (Nat.le_of_ble_eq_true rfl)
  rw [lg_entry_eq]
  generalize (lg_sl ([.ref q_this, .int a_0, .int a_1, .int a_2]) ++ List.replicate (5 - (lg_sl ([.ref q_this, .int a_0, .int a_1, .int a_2])).length) Slot.unset).toArray = ls at hl ⊢
  replace hl : lv_has ls 5 [(0, .ref q_this), (1, .int a_0), (2, .int a_1), (3, .int a_2)] := hl
  unfold wp_SR_put at hw
  change W p l e rm_SR_put s m _ below meth c s.heap [] 0 0 _ _
  refine lv_aload_n hx hb d_SR_put_0 rfl (lv_at hl 0 rfl) ?_
  refine lv_iload_n hx hb d_SR_put_1 rfl (lv_at hl 1 rfl) ?_
  refine go_SR_requireElement (wr := [(q_exponents, .inl (k_exponents, 16, .inl x_exponents)), (q_knownPower, .inr (1, [.ref q_knownPower_rest, .ref q_knownPower_shares, .int x_knownPower_known]))]) ⟨hx, hb, hml, hown, hts⟩ (zz_cwV 1 hts tw_312 tw_309 tw_311 tw_11 tw_31 ⟨by decide, by decide, by decide +kernel⟩ ⟨Nat.le_of_ble_eq_true rfl, Nat.le_of_ble_eq_true rfl⟩) hK hP hD hS hA [0] [1, 2] [] rfl rfl (by decide) rfl (by decide) (by decide) rfl hw hl.1 (Nat.le_of_ble_eq_true rfl) d_SR_put_2 ⟨Nat.le_of_ble_eq_true rfl, Nat.le_of_ble_eq_true rfl⟩ (fun H locs hw hP hD hS => ?_)
  replace hP : va_P (dC, dI) zz_cl [(q_exponents, .inl (k_exponents, 16, .inl x_exponents)), (q_knownPower, .inr (1, [.ref q_knownPower_rest, .ref q_knownPower_shares, .int x_knownPower_known])), (q_this, .inr (3, [.ref q_exponents, .int x_count, .ref q_byElement, .ref q_byLetter, .ref q_hullByLetter, .int x_settled, .ref q_minors, .ref q_knownPower]))] H := hP
  replace hD : va_D A [(q_exponents, .inl (k_exponents, 16, .inl x_exponents)), (q_knownPower, .inr (1, [.ref q_knownPower_rest, .ref q_knownPower_shares, .int x_knownPower_known])), (q_this, .inr (3, [.ref q_exponents, .int x_count, .ref q_byElement, .ref q_byLetter, .ref q_hullByLetter, .int x_settled, .ref q_minors, .ref q_knownPower]))] := hD
  refine lv_iload_n hx hb d_SR_put_5 rfl (lv_at hl 2 rfl) ?_
  refine go_SR_requireLetter (wr := [(q_exponents, .inl (k_exponents, 16, .inl x_exponents)), (q_knownPower, .inr (1, [.ref q_knownPower_rest, .ref q_knownPower_shares, .int x_knownPower_known])), (q_this, .inr (3, [.ref q_exponents, .int x_count, .ref q_byElement, .ref q_byLetter, .ref q_hullByLetter, .int x_settled, .ref q_minors, .ref q_knownPower]))]) ⟨hx, hb, hml, hown, hts⟩ (zz_cwS 1 hts tw_334 tw_332 tw_333 tw_31 ⟨by decide, by decide, by decide +kernel⟩ ⟨Nat.le_of_ble_eq_true rfl, Nat.le_of_ble_eq_true rfl⟩) hK hP hD hS hA [] [0, 1, 2] [] rfl rfl (by decide) rfl (by decide) (by decide) rfl hw hl.1 (Nat.le_of_ble_eq_true rfl) d_SR_put_6 ⟨Nat.le_of_ble_eq_true rfl, Nat.le_of_ble_eq_true rfl⟩ (fun H locs hw hP hD hS => ?_)
  replace hP : va_P (dC, dI) zz_cl [(q_exponents, .inl (k_exponents, 16, .inl x_exponents)), (q_knownPower, .inr (1, [.ref q_knownPower_rest, .ref q_knownPower_shares, .int x_knownPower_known])), (q_this, .inr (3, [.ref q_exponents, .int x_count, .ref q_byElement, .ref q_byLetter, .ref q_hullByLetter, .int x_settled, .ref q_minors, .ref q_knownPower]))] H := hP
  replace hD : va_D A [(q_exponents, .inl (k_exponents, 16, .inl x_exponents)), (q_knownPower, .inr (1, [.ref q_knownPower_rest, .ref q_knownPower_shares, .int x_knownPower_known])), (q_this, .inr (3, [.ref q_exponents, .int x_count, .ref q_byElement, .ref q_byLetter, .ref q_hullByLetter, .int x_settled, .ref q_minors, .ref q_knownPower]))] := hD
  refine lv_iload_n hx hb d_SR_put_9 rfl (lv_at hl 3 rfl) ?_
  refine go_SR_requireExponent (wr := [(q_exponents, .inl (k_exponents, 16, .inl x_exponents)), (q_knownPower, .inr (1, [.ref q_knownPower_rest, .ref q_knownPower_shares, .int x_knownPower_known])), (q_this, .inr (3, [.ref q_exponents, .int x_count, .ref q_byElement, .ref q_byLetter, .ref q_hullByLetter, .int x_settled, .ref q_minors, .ref q_knownPower]))]) ⟨hx, hb, hml, hown, hts⟩ (zz_cwS 1 hts tw_337 tw_335 tw_336 tw_31 ⟨by decide, by decide, by decide +kernel⟩ ⟨Nat.le_of_ble_eq_true rfl, Nat.le_of_ble_eq_true rfl⟩) hK hP hD hS hA [] [0, 1, 2] [] rfl rfl (by decide) rfl (by decide) (by decide) rfl hw hl.1 (Nat.le_of_ble_eq_true rfl) d_SR_put_10 ⟨Nat.le_of_ble_eq_true rfl, Nat.le_of_ble_eq_true rfl⟩ (fun H locs hw hP hD hS => ?_)
  replace hP : va_P (dC, dI) zz_cl [(q_exponents, .inl (k_exponents, 16, .inl x_exponents)), (q_knownPower, .inr (1, [.ref q_knownPower_rest, .ref q_knownPower_shares, .int x_knownPower_known])), (q_this, .inr (3, [.ref q_exponents, .int x_count, .ref q_byElement, .ref q_byLetter, .ref q_hullByLetter, .int x_settled, .ref q_minors, .ref q_knownPower]))] H := hP
  replace hD : va_D A [(q_exponents, .inl (k_exponents, 16, .inl x_exponents)), (q_knownPower, .inr (1, [.ref q_knownPower_rest, .ref q_knownPower_shares, .int x_knownPower_known])), (q_this, .inr (3, [.ref q_exponents, .int x_count, .ref q_byElement, .ref q_byLetter, .ref q_hullByLetter, .int x_settled, .ref q_minors, .ref q_knownPower]))] := hD
  refine lv_iload_n hx hb d_SR_put_13 rfl (lv_at hl 1 rfl) ?_
  refine lv_iconst (v := 4) hx hb d_SR_put_14 (by decide) ?_
  refine lv_imul hx hb d_SR_put_15 ?_
  refine lv_iload_n hx hb d_SR_put_16 rfl (lv_at hl 2 rfl) ?_
  refine lv_iadd hx hb d_SR_put_17 ?_
  refine lv_topi (fun v_1 ev_1 => ?_)
  replace hw := hw v_1 ev_1
  refine lv_istore (lv' := [(4, .int v_1), (0, .ref q_this), (1, .int a_0), (2, .int a_1), (3, .int a_2)]) hx hb d_SR_put_18 hl (by decide) rfl (fun ls hl => ?_)
  refine lv_aload_n hx hb d_SR_put_20 rfl (lv_at hl 1 rfl) ?_
  refine va_get (D := (dC, dI)) (ci := 3) (v := .ref q_exponents) (C := "StructureRows") (T := T_SR) (N := 8) hx hb hts in_SR hown hK hP 2 rfl rfl 0 (by decide) (hts _ tw_105) (fun _ h9 => h9) rfl d_SR_put_21 ?_
  refine lv_iload hx hb d_SR_put_24 (lv_at hl 0 rfl) ?_
  obtain ⟨h_2, hw⟩ := hw
  refine va_iald hx hb hK hP 0 0 rfl rfl h_2 d_SR_put_26 ?_
  refine lv_iload_n hx hb d_SR_put_27 rfl (lv_at hl 4 rfl) ?_
  refine lv_icmp_ne (tgt := 33) hx hb d_SR_put_28 (by decide) (fun h_3 => ?_) (fun h_3 => ?_)
  · replace hw := hw.1 h_3
    refine lv_aload_n hx hb d_SR_put_33 rfl (lv_at hl 1 rfl) ?_
    refine va_get (D := (dC, dI)) (ci := 3) (v := .ref q_exponents) (C := "StructureRows") (T := T_SR) (N := 8) hx hb hts in_SR hown hK hP 2 rfl rfl 0 (by decide) (hts _ tw_105) (fun _ h9 => h9) rfl d_SR_put_34 ?_
    refine lv_iload hx hb d_SR_put_37 (lv_at hl 0 rfl) ?_
    refine lv_iload_n hx hb d_SR_put_39 rfl (lv_at hl 4 rfl) ?_
    obtain ⟨h_4, hw⟩ := hw
    obtain ⟨w_5, ew_5⟩ : ∃ y : Nat → Int32, y = upd x_exponents v_1.toNatClampNeg a_2 := ⟨_, rfl⟩
    replace hw := hw w_5 ew_5
    refine va_iast hx hb hK hP hD hS 0 0 rfl rfl h_4 d_SR_put_40 (fun H locs hP hD hS => ?_)
    rw [← ew_5] at hP hD
    replace hP : va_P (dC, dI) zz_cl [(q_exponents, .inl (k_exponents, 16, .inl w_5)), (q_knownPower, .inr (1, [.ref q_knownPower_rest, .ref q_knownPower_shares, .int x_knownPower_known])), (q_this, .inr (3, [.ref q_exponents, .int x_count, .ref q_byElement, .ref q_byLetter, .ref q_hullByLetter, .int x_settled, .ref q_minors, .ref q_knownPower]))] H := hP
    replace hD : va_D A [(q_exponents, .inl (k_exponents, 16, .inl w_5)), (q_knownPower, .inr (1, [.ref q_knownPower_rest, .ref q_knownPower_shares, .int x_knownPower_known])), (q_this, .inr (3, [.ref q_exponents, .int x_count, .ref q_byElement, .ref q_byLetter, .ref q_hullByLetter, .int x_settled, .ref q_minors, .ref q_knownPower]))] := hD
    refine lv_aload_n hx hb d_SR_put_41 rfl (lv_at hl 1 rfl) ?_
    refine go_SR_forgetAnswers (wr := [(q_exponents, .inl (k_exponents, 16, .inl w_5))]) ⟨hx, hb, hml, hown, hts⟩ (zz_cwV 0 hts tw_219 tw_216 tw_218 tw_9 tw_31 ⟨by decide, by decide, by decide +kernel⟩ ⟨Nat.le_of_ble_eq_true rfl, Nat.le_of_ble_eq_true rfl⟩) hK hP hD hS hA [2, 1] [0] [] rfl rfl (by decide) rfl (by decide) (by decide) rfl hw hl.1 (Nat.le_of_ble_eq_true rfl) d_SR_put_42 ⟨Nat.le_of_ble_eq_true rfl, Nat.le_of_ble_eq_true rfl⟩ (fun m_6 m_7 H locs hw hP hD hS => ?_)
    replace hP : va_P (dC, dI) zz_cl [(q_exponents, .inl (k_exponents, 16, .inl w_5)), (q_this, .inr (3, [.ref q_exponents, .int x_count, .ref q_byElement, .ref q_byLetter, .ref q_hullByLetter, .int m_6, .ref q_minors, .ref q_knownPower])), (q_knownPower, .inr (1, [.ref q_knownPower_rest, .ref q_knownPower_shares, .int m_7]))] H := hP
    replace hD : va_D A [(q_exponents, .inl (k_exponents, 16, .inl w_5)), (q_this, .inr (3, [.ref q_exponents, .int x_count, .ref q_byElement, .ref q_byLetter, .ref q_hullByLetter, .int m_6, .ref q_minors, .ref q_knownPower])), (q_knownPower, .inr (1, [.ref q_knownPower_rest, .ref q_knownPower_shares, .int m_7]))] := hD
    refine lv_iconst (v := 1) hx hb d_SR_put_45 (by decide) ?_
    exact W.zret (v := 1) (ty := .boolean) hx hb hr rfl (fun t ht hW => ⟨⟨1, (m_6, w_5, m_7), rfl, hw, by rw [ht]; exact hP.sub [1, 0, 2] rfl, va_K.moved hW.alike hK, hD.sub [1, 0, 2] (by decide) rfl⟩, hS.F ht⟩) hS.2.2 d_SR_put_46
  · replace hw := hw.2 h_3
    refine lv_iconst (v := 0) hx hb d_SR_put_31 (by decide) ?_
    exact W.zret (v := 0) (ty := .boolean) hx hb hr rfl (fun t ht hW => ⟨⟨0, (x_settled, x_exponents, x_knownPower_known), rfl, hw, by rw [ht]; exact hP.sub [2, 0, 1] rfl, va_K.moved hW.alike hK, hD.sub [2, 0, 1] (by decide) rfl⟩, hS.F ht⟩) hS.2.2 d_SR_put_32
set_option maxHeartbeats 4000000 in
set_option maxRecDepth 100000 in
theorem go_SR_put {p : Program} {l : Launch} {e : Env} {R : Room} {s : State} {m : MethodId} {args : Array Value} {below : List Frame} {meth : Method} {c : Code} {H : Heap} {locs : List Loc} {cells slots : Nat} {Q : State → Prop} {cc : ByteArray} {nL : Nat} {Ts : List Cond} {own : String} {index : Nat} {A0 : Nat → Prop} {H0 : Heap} {dC : Nat → ClassId} {dI : Nat → Nat → Nat} {ws wr : va_W} {tys : List (ClassId × FieldType)} {q_this q_exponents q_byElement q_byLetter q_hullByLetter q_minors q_knownPower q_knownPower_rest q_knownPower_shares : Nat} {k_exponents : ClassId} {x_count : Int32} {x_settled : Int32} {x_exponents : Nat → Int32} {x_knownPower_known : Int32} {a_0 : Int32} {a_1 : Int32} {a_2 : Int32} {post : Int32 → Int32 → (Nat → Int32) → Int32 → Prop} (S : CallFix p m c cc nL s args Ts own) (cw : CallW R s args own "StructureRows" index y_SR_put b_SR_put 5 (some .boolean) (zz_w y_SR_put b_SR_put 5 (some .boolean)) rm_SR_put 0 0 3) (hK : va_K (dC, dI) zz_cl tys s) (hP : va_P (dC, dI) zz_cl ws H) (hD : va_D A0 ws) (hS : va_S A0 H0 H locs) (hA : ∀ q, H0.size ≤ q → A0 q) (isC isR kt : List Nat) (h1 : isC.filterMap (fun i => ws[i]?) = [(q_this, .inr (3, [.ref q_exponents, .int x_count, .ref q_byElement, .ref q_byLetter, .ref q_hullByLetter, .int x_settled, .ref q_minors, .ref q_knownPower])), (q_exponents, .inl (k_exponents, 16, .inl x_exponents)), (q_knownPower, .inr (1, [.ref q_knownPower_rest, .ref q_knownPower_shares, .int x_knownPower_known]))]) (h2 : isC.map (fun i => ws[i]?) = ([(q_this, .inr (3, [.ref q_exponents, .int x_count, .ref q_byElement, .ref q_byLetter, .ref q_hullByLetter, .int x_settled, .ref q_minors, .ref q_knownPower])), (q_exponents, .inl (k_exponents, 16, .inl x_exponents)), (q_knownPower, .inr (1, [.ref q_knownPower_rest, .ref q_knownPower_shares, .int x_knownPower_known]))] : va_W).map some) (h3 : va_nd isC = true) (h4 : isR.map (fun i => ws[i]?) = wr.map some) (h5 : va_nd isR = true) (h6 : ∀ i ∈ isR, i ∉ isC) (h7 : kt.filterMap (fun i => tys[i]?) = [(k_exponents, .int)]) (hw : wp_SR_put x_count x_settled x_exponents x_knownPower_known a_0 a_1 a_2 post) {pc : Nat} {ls : Array Slot} {rest : List Value} (hsize : ls.size = nL) (hrest : (rest.map fun v => v.category).sum ≤ 8) (hdg : decode cc pc = .ok (.invokevirtual index, 3)) (hf : cells + 0 ≤ R.cells ∧ slots + 0 ≤ R.slots) (kk : ∀ (r : Int32) (m0 : Int32) (m1 : Nat → Int32) (m2 : Int32) (H1 : Heap) (locs1 : List Loc), post r m0 m1 m2 → va_P (dC, dI) zz_cl (wr ++ [(q_this, .inr (3, [.ref q_exponents, .int x_count, .ref q_byElement, .ref q_byLetter, .ref q_hullByLetter, .int m0, .ref q_minors, .ref q_knownPower])), (q_exponents, .inl (k_exponents, 16, .inl m1)), (q_knownPower, .inr (1, [.ref q_knownPower_rest, .ref q_knownPower_shares, .int m2]))]) H1 → va_D A0 (wr ++ [(q_this, .inr (3, [.ref q_exponents, .int x_count, .ref q_byElement, .ref q_byLetter, .ref q_hullByLetter, .int m0, .ref q_minors, .ref q_knownPower])), (q_exponents, .inl (k_exponents, 16, .inl m1)), (q_knownPower, .inr (1, [.ref q_knownPower_rest, .ref q_knownPower_shares, .int m2]))]) → va_S A0 H0 H1 locs1 → W p l e R s m args below meth c H1 locs1 (cells + 0) (slots + 0) Q (F0 m (pc + 3) ls (.int r :: rest))) : W p l e R s m args below meth c H locs cells slots Q (F0 m pc ls (.int a_2 :: .int a_1 :: .int a_0 :: .ref q_this :: rest)) := by
  have hPc := hP.sub (ws' := [(q_this, .inr (3, [.ref q_exponents, .int x_count, .ref q_byElement, .ref q_byLetter, .ref q_hullByLetter, .int x_settled, .ref q_minors, .ref q_knownPower])), (q_exponents, .inl (k_exponents, 16, .inl x_exponents)), (q_knownPower, .inr (1, [.ref q_knownPower_rest, .ref q_knownPower_shares, .int x_knownPower_known]))]) isC h1
  have hDc := hD.sub (ws' := [(q_this, .inr (3, [.ref q_exponents, .int x_count, .ref q_byElement, .ref q_byLetter, .ref q_hullByLetter, .int x_settled, .ref q_minors, .ref q_knownPower])), (q_exponents, .inl (k_exponents, 16, .inl x_exponents)), (q_knownPower, .inr (1, [.ref q_knownPower_rest, .ref q_knownPower_shares, .int x_knownPower_known]))]) isC h3 h2
  have hKc := hK.sub (tys' := [(k_exponents, .int)]) kt h7
  have hFc := va_free (wc := [(q_this, .inr (3, [.ref q_exponents, .int x_count, .ref q_byElement, .ref q_byLetter, .ref q_hullByLetter, .int x_settled, .ref q_minors, .ref q_knownPower])), (q_exponents, .inl (k_exponents, 16, .inl x_exponents)), (q_knownPower, .inr (1, [.ref q_knownPower_rest, .ref q_knownPower_shares, .int x_knownPower_known]))]) hD hS hA isC h2
  refine va_calli (va_runV (As := [.int a_0, .int a_1, .int a_2]) (rest := rest) S (c_SR_put l dC dI q_this q_exponents q_byElement q_byLetter q_hullByLetter q_minors q_knownPower q_knownPower_rest q_knownPower_shares k_exponents H.size x_count x_settled x_exponents x_knownPower_known a_0 a_1 a_2 post hw) cw ⟨zz_blind, va_recv hKc hPc (ci := 3) (q0 := 0) rfl rfl, fun U hU hW => ⟨rfl, by rw [hU], by rw [hU]; exact hPc, va_K.moved hW.alike hKc, hDc.weaken (fun _ _ _ _ => trivial)⟩⟩ rfl rfl hsize rfl (lv_room hrest) hdg hf) hS (fun q _ h => hFc q h) hFc (fun r u t H1 locs ht hvm hw hB hz1 hk1 hS => ?_)
  obtain ⟨hP1, hK1, hD1⟩ := hB
  rw [ht] at hP1
  obtain ⟨hP2, hD2⟩ := va_join (wr := wr) (w1 := [(q_this, .inr (3, [.ref q_exponents, .int x_count, .ref q_byElement, .ref q_byLetter, .ref q_hullByLetter, .int u.1, .ref q_minors, .ref q_knownPower])), (q_exponents, .inl (k_exponents, 16, .inl u.2.1)), (q_knownPower, .inr (1, [.ref q_knownPower_rest, .ref q_knownPower_shares, .int u.2.2]))]) hP hD isC isR h2 h4 h5 h6 hk1 hFc hP1 hD1
  exact kk r u.1 u.2.1 u.2.2 H1 locs hw hP2 hD2 hS
abbrev rm_SR_putx : Room := { frames := 8, cells := 1, slots := 6, locals := 142 }
abbrev xz_SR_putx (dC : Nat → ClassId) (dI : Nat → Nat → Nat) (q_this q_exponents q_byElement q_byLetter q_hullByLetter q_minors q_knownPower q_knownPower_rest q_knownPower_shares : Nat) (k_exponents : ClassId) (x_count : Int32) (px : String → Int32 → (Nat → Int32) → Int32 → Prop) (A : Nat → Prop) : String → State → State → Prop := vx_X (fun (u : String × (Int32 × (Nat → Int32) × Int32)) => px u.1 u.2.1 u.2.2.1 u.2.2.2) (fun (E9 : String) (u : String × (Int32 × (Nat → Int32) × Int32)) (t : State) => u.1 = E9 ∧ va_P (dC, dI) zz_cl [(q_this, .inr (3, [.ref q_exponents, .int x_count, .ref q_byElement, .ref q_byLetter, .ref q_hullByLetter, .int u.2.1, .ref q_minors, .ref q_knownPower])), (q_exponents, .inl (k_exponents, 16, .inl u.2.2.1)), (q_knownPower, .inr (1, [.ref q_knownPower_rest, .ref q_knownPower_shares, .int u.2.2.2]))] t.heap ∧ va_K (dC, dI) zz_cl [(k_exponents, .int)] t ∧ va_D A [(q_this, .inr (3, [.ref q_exponents, .int x_count, .ref q_byElement, .ref q_byLetter, .ref q_hullByLetter, .int u.2.1, .ref q_minors, .ref q_knownPower])), (q_exponents, .inl (k_exponents, 16, .inl u.2.2.1)), (q_knownPower, .inr (1, [.ref q_knownPower_rest, .ref q_knownPower_shares, .int u.2.2.2]))]) A
def cx_SR_putx (p : Program) (l : Launch) (s : State) (m : MethodId) (args : Array Value) (meth : Method) (c : Code) : Prop := p.tables.exec = Jvm.exec ∧ c.code = b_SR_put ∧ meth.sig.returnType = (some .boolean) ∧ c.maxLocals = 5 ∧ s.vm.findClass "StructureRows" = some m.cls ∧ (∀ w ∈ zz_GW, w.before args s = true) ∧ meth.locks = false ∧ (∀ x ∈ c.exceptionTable.toList, False) ∧ l.stackTraces = false
def wp_SR_putx (x_count : Int32) (x_settled : Int32) (x_exponents : Nat → Int32) (x_knownPower_known : Int32) (a_0 : Int32) (a_1 : Int32) (a_2 : Int32) (px : String → Int32 → (Nat → Int32) → Int32 → Prop) : Prop := (wp_SR_requireElementx x_count x_settled a_0 (fun (E9 : String) => px E9 x_settled x_exponents x_knownPower_known)) ∨ (wp_SR_requireElement x_count x_settled a_0  ((wp_SR_requireLetterx a_1 (fun (E9 : String) => px E9 x_settled x_exponents x_knownPower_known)) ∨ (wp_SR_requireLetter a_1  (wp_SR_requireExponentx a_2 (fun (E9 : String) => px E9 x_settled x_exponents x_knownPower_known)))))
set_option maxHeartbeats 4000000 in
set_option maxRecDepth 100000 in
theorem c_SR_putx (l : Launch) (hl9 : l.stackTraces = false) (sa : Nat → Nat) (dC : Nat → ClassId) (dI : Nat → Nat → Nat) (q_this q_exponents q_byElement q_byLetter q_hullByLetter q_minors q_knownPower q_knownPower_rest q_knownPower_shares : Nat) (k_exponents : ClassId) (sz : Nat) (x_count : Int32) (x_settled : Int32) (x_exponents : Nat → Int32) (x_knownPower_known : Int32) (a_0 : Int32) (a_1 : Int32) (a_2 : Int32) (px : String → Int32 → (Nat → Int32) → Int32 → Prop) (hw : wp_SR_putx x_count x_settled x_exponents x_knownPower_known a_0 a_1 a_2 px) : vx_Met l y_SR_put (zz_w y_SR_put b_SR_put 5 (some .boolean)) rm_SR_putx (va_Pc [.ref q_this, .int a_0, .int a_1, .int a_2] (fun U => U.heap.size = sz ∧ va_P (dC, dI) zz_cl [(q_this, .inr (3, [.ref q_exponents, .int x_count, .ref q_byElement, .ref q_byLetter, .ref q_hullByLetter, .int x_settled, .ref q_minors, .ref q_knownPower])), (q_exponents, .inl (k_exponents, 16, .inl x_exponents)), (q_knownPower, .inr (1, [.ref q_knownPower_rest, .ref q_knownPower_shares, .int x_knownPower_known]))] U.heap ∧ va_K (dC, dI) zz_cl [(k_exponents, .int)] U ∧ va_D (fun _ => True) [(q_this, .inr (3, [.ref q_exponents, .int x_count, .ref q_byElement, .ref q_byLetter, .ref q_hullByLetter, .int x_settled, .ref q_minors, .ref q_knownPower])), (q_exponents, .inl (k_exponents, 16, .inl x_exponents)), (q_knownPower, .inr (1, [.ref q_knownPower_rest, .ref q_knownPower_shares, .int x_knownPower_known]))] ∧ zz_X sa (va_A [(q_this, .inr (3, [.ref q_exponents, .int x_count, .ref q_byElement, .ref q_byLetter, .ref q_hullByLetter, .int x_settled, .ref q_minors, .ref q_knownPower])), (q_exponents, .inl (k_exponents, 16, .inl x_exponents)), (q_knownPower, .inr (1, [.ref q_knownPower_rest, .ref q_knownPower_shares, .int x_knownPower_known]))] sz) U)) (va_Qv (fun (_ : Unit) => False) (fun _ _ => True) (va_A [(q_this, .inr (3, [.ref q_exponents, .int x_count, .ref q_byElement, .ref q_byLetter, .ref q_hullByLetter, .int x_settled, .ref q_minors, .ref q_knownPower])), (q_exponents, .inl (k_exponents, 16, .inl x_exponents)), (q_knownPower, .inr (1, [.ref q_knownPower_rest, .ref q_knownPower_shares, .int x_knownPower_known]))] sz)) (xz_SR_putx dC dI q_this q_exponents q_byElement q_byLetter q_hullByLetter q_minors q_knownPower q_knownPower_rest q_knownPower_shares k_exponents x_count px (va_A [(q_this, .inr (3, [.ref q_exponents, .int x_count, .ref q_byElement, .ref q_byLetter, .ref q_hullByLetter, .int x_settled, .ref q_minors, .ref q_knownPower])), (q_exponents, .inl (k_exponents, 16, .inl x_exponents)), (q_knownPower, .inr (1, [.ref q_knownPower_rest, .ref q_knownPower_shares, .int x_knownPower_known]))] sz)) 1 6 (va_A [(q_this, .inr (3, [.ref q_exponents, .int x_count, .ref q_byElement, .ref q_byLetter, .ref q_hullByLetter, .int x_settled, .ref q_minors, .ref q_knownPower])), (q_exponents, .inl (k_exponents, 16, .inl x_exponents)), (q_knownPower, .inr (1, [.ref q_knownPower_rest, .ref q_knownPower_shares, .int x_knownPower_known]))] sz) := by
  refine vx_ofW (cc := b_SR_put) (maxL := 5) (ret := (some .boolean)) (by decide) rfl ?_
  intro p e s m args below meth c s₁ B hml hne hv
  obtain ⟨rfl, hsz, hP, hK, hD0, hX⟩ := hv
  have hx := B.exec
  have hb := B.bytes
  have hr := B.returns
  have hts0 := atoms_spec (ws := (zz_w y_SR_put b_SR_put 5 (some .boolean))) B.pre
  have hts : ∀ w ∈ zz_GW, w.before _ s = true := fun w h => hts0 w (List.mem_cons_of_mem _ h)
  clear hts0
  have hown : s.vm.findClass "StructureRows" = some m.cls := findClass_of_methodNamed B.named
  have hlocks := B.notSynchronized
  have C0 : cx_SR_putx p l s m _ meth c := ⟨hx, hb, hr, hml, hown, hts, hlocks, hne, hl9⟩
  subst hsz
  have hD := hD0.self (sz := s.heap.size)
  generalize hAe : va_A [(q_this, .inr (3, [.ref q_exponents, .int x_count, .ref q_byElement, .ref q_byLetter, .ref q_hullByLetter, .int x_settled, .ref q_minors, .ref q_knownPower])), (q_exponents, .inl (k_exponents, 16, .inl x_exponents)), (q_knownPower, .inr (1, [.ref q_knownPower_rest, .ref q_knownPower_shares, .int x_knownPower_known]))] s.heap.size = A at hD hX ⊢
  have hA : ∀ q : Nat, s.heap.size ≤ q → A q := fun q h => by rw [← hAe]; exact Or.inr h
  clear hAe hD0
  have hS : va_S A s.heap s.heap [] := va_S.rf
  have hl := lv_entry ([.ref q_this, .int a_0, .int a_1, .int a_2]) (n := 5) (Nat.le_of_ble_eq_true rfl)
  rw [lg_entry_eq]
  generalize (lg_sl ([.ref q_this, .int a_0, .int a_1, .int a_2]) ++ List.replicate (5 - (lg_sl ([.ref q_this, .int a_0, .int a_1, .int a_2])).length) Slot.unset).toArray = ls at hl ⊢
  replace hl : lv_has ls 5 [(0, .ref q_this), (1, .int a_0), (2, .int a_1), (3, .int a_2)] := hl
  unfold wp_SR_putx at hw
  change W p l e rm_SR_putx s m _ below meth c s.heap [] 0 0 _ _
  refine lv_aload_n hx hb d_SR_put_0 rfl (lv_at hl 0 rfl) ?_
  refine lv_iload_n hx hb d_SR_put_1 rfl (lv_at hl 1 rfl) ?_
  rcases hw with hw | hw
  · refine go_SR_requireElementx (wr := [(q_exponents, .inl (k_exponents, 16, .inl x_exponents)), (q_knownPower, .inr (1, [.ref q_knownPower_rest, .ref q_knownPower_shares, .int x_knownPower_known]))]) ⟨hx, hb, hml, hown, hts⟩ (zz_cwV 1 hts tw_312 tw_309 tw_311 tw_11 tw_31 ⟨by decide, by decide, by decide +kernel⟩ ⟨Nat.le_of_ble_eq_true rfl, Nat.le_of_ble_eq_true rfl⟩) hl9 hX hK hP hD hS hA [0] [1, 2] [] rfl rfl (by decide) rfl (by decide) (by decide) rfl hw hl.1 (Nat.le_of_ble_eq_true rfl) d_SR_put_2 ⟨Nat.le_of_ble_eq_true rfl, Nat.le_of_ble_eq_true rfl⟩ (fun E9 ce q9 H locs hw hP hD hS hce hcv hcl => ?_)
    replace hP : va_P (dC, dI) zz_cl [(q_exponents, .inl (k_exponents, 16, .inl x_exponents)), (q_knownPower, .inr (1, [.ref q_knownPower_rest, .ref q_knownPower_shares, .int x_knownPower_known])), (q_this, .inr (3, [.ref q_exponents, .int x_count, .ref q_byElement, .ref q_byLetter, .ref q_hullByLetter, .int x_settled, .ref q_minors, .ref q_knownPower]))] H := hP
    replace hD : va_D A [(q_exponents, .inl (k_exponents, 16, .inl x_exponents)), (q_knownPower, .inr (1, [.ref q_knownPower_rest, .ref q_knownPower_shares, .int x_knownPower_known])), (q_this, .inr (3, [.ref q_exponents, .int x_count, .ref q_byElement, .ref q_byLetter, .ref q_hullByLetter, .int x_settled, .ref q_minors, .ref q_knownPower]))] := hD
    exact vx_out (E := E9) (fun x hx => (hne x hx).elim) hlocks hce hcv hcl (fun t ht ha => ⟨(E9, (x_settled, x_exponents, x_knownPower_known)), hw, ⟨rfl, by rw [ht]; exact hP.sub [2, 0, 1] rfl, va_K.moved ha hK, hD.sub [2, 0, 1] (by decide) rfl⟩, hS.F ht⟩) hS.2.2 (Nat.le_of_ble_eq_true rfl) (Nat.le_of_ble_eq_true rfl)
  · refine go_SR_requireElement (wr := [(q_exponents, .inl (k_exponents, 16, .inl x_exponents)), (q_knownPower, .inr (1, [.ref q_knownPower_rest, .ref q_knownPower_shares, .int x_knownPower_known]))]) ⟨hx, hb, hml, hown, hts⟩ (zz_cwV 1 hts tw_312 tw_309 tw_311 tw_11 tw_31 ⟨by decide, by decide, by decide +kernel⟩ ⟨Nat.le_of_ble_eq_true rfl, Nat.le_of_ble_eq_true rfl⟩) hK hP hD hS hA [0] [1, 2] [] rfl rfl (by decide) rfl (by decide) (by decide) rfl hw hl.1 (Nat.le_of_ble_eq_true rfl) d_SR_put_2 ⟨Nat.le_of_ble_eq_true rfl, Nat.le_of_ble_eq_true rfl⟩ (fun H locs hw hP hD hS => ?_)
    replace hP : va_P (dC, dI) zz_cl [(q_exponents, .inl (k_exponents, 16, .inl x_exponents)), (q_knownPower, .inr (1, [.ref q_knownPower_rest, .ref q_knownPower_shares, .int x_knownPower_known])), (q_this, .inr (3, [.ref q_exponents, .int x_count, .ref q_byElement, .ref q_byLetter, .ref q_hullByLetter, .int x_settled, .ref q_minors, .ref q_knownPower]))] H := hP
    replace hD : va_D A [(q_exponents, .inl (k_exponents, 16, .inl x_exponents)), (q_knownPower, .inr (1, [.ref q_knownPower_rest, .ref q_knownPower_shares, .int x_knownPower_known])), (q_this, .inr (3, [.ref q_exponents, .int x_count, .ref q_byElement, .ref q_byLetter, .ref q_hullByLetter, .int x_settled, .ref q_minors, .ref q_knownPower]))] := hD
    refine lv_iload_n hx hb d_SR_put_5 rfl (lv_at hl 2 rfl) ?_
    rcases hw with hw | hw
    · refine go_SR_requireLetterx (wr := [(q_exponents, .inl (k_exponents, 16, .inl x_exponents)), (q_knownPower, .inr (1, [.ref q_knownPower_rest, .ref q_knownPower_shares, .int x_knownPower_known])), (q_this, .inr (3, [.ref q_exponents, .int x_count, .ref q_byElement, .ref q_byLetter, .ref q_hullByLetter, .int x_settled, .ref q_minors, .ref q_knownPower]))]) ⟨hx, hb, hml, hown, hts⟩ (zz_cwS 1 hts tw_334 tw_332 tw_333 tw_31 ⟨by decide, by decide, by decide +kernel⟩ ⟨Nat.le_of_ble_eq_true rfl, Nat.le_of_ble_eq_true rfl⟩) hl9 hX hK hP hD hS hA [] [0, 1, 2] [] rfl rfl (by decide) rfl (by decide) (by decide) rfl hw hl.1 (Nat.le_of_ble_eq_true rfl) d_SR_put_6 ⟨Nat.le_of_ble_eq_true rfl, Nat.le_of_ble_eq_true rfl⟩ (fun E9 ce q9 H locs hw hP hD hS hce hcv hcl => ?_)
      replace hP : va_P (dC, dI) zz_cl [(q_exponents, .inl (k_exponents, 16, .inl x_exponents)), (q_knownPower, .inr (1, [.ref q_knownPower_rest, .ref q_knownPower_shares, .int x_knownPower_known])), (q_this, .inr (3, [.ref q_exponents, .int x_count, .ref q_byElement, .ref q_byLetter, .ref q_hullByLetter, .int x_settled, .ref q_minors, .ref q_knownPower]))] H := hP
      replace hD : va_D A [(q_exponents, .inl (k_exponents, 16, .inl x_exponents)), (q_knownPower, .inr (1, [.ref q_knownPower_rest, .ref q_knownPower_shares, .int x_knownPower_known])), (q_this, .inr (3, [.ref q_exponents, .int x_count, .ref q_byElement, .ref q_byLetter, .ref q_hullByLetter, .int x_settled, .ref q_minors, .ref q_knownPower]))] := hD
      exact vx_out (E := E9) (fun x hx => (hne x hx).elim) hlocks hce hcv hcl (fun t ht ha => ⟨(E9, (x_settled, x_exponents, x_knownPower_known)), hw, ⟨rfl, by rw [ht]; exact hP.sub [2, 0, 1] rfl, va_K.moved ha hK, hD.sub [2, 0, 1] (by decide) rfl⟩, hS.F ht⟩) hS.2.2 (Nat.le_of_ble_eq_true rfl) (Nat.le_of_ble_eq_true rfl)
    · refine go_SR_requireLetter (wr := [(q_exponents, .inl (k_exponents, 16, .inl x_exponents)), (q_knownPower, .inr (1, [.ref q_knownPower_rest, .ref q_knownPower_shares, .int x_knownPower_known])), (q_this, .inr (3, [.ref q_exponents, .int x_count, .ref q_byElement, .ref q_byLetter, .ref q_hullByLetter, .int x_settled, .ref q_minors, .ref q_knownPower]))]) ⟨hx, hb, hml, hown, hts⟩ (zz_cwS 1 hts tw_334 tw_332 tw_333 tw_31 ⟨by decide, by decide, by decide +kernel⟩ ⟨Nat.le_of_ble_eq_true rfl, Nat.le_of_ble_eq_true rfl⟩) hK hP hD hS hA [] [0, 1, 2] [] rfl rfl (by decide) rfl (by decide) (by decide) rfl hw hl.1 (Nat.le_of_ble_eq_true rfl) d_SR_put_6 ⟨Nat.le_of_ble_eq_true rfl, Nat.le_of_ble_eq_true rfl⟩ (fun H locs hw hP hD hS => ?_)
      replace hP : va_P (dC, dI) zz_cl [(q_exponents, .inl (k_exponents, 16, .inl x_exponents)), (q_knownPower, .inr (1, [.ref q_knownPower_rest, .ref q_knownPower_shares, .int x_knownPower_known])), (q_this, .inr (3, [.ref q_exponents, .int x_count, .ref q_byElement, .ref q_byLetter, .ref q_hullByLetter, .int x_settled, .ref q_minors, .ref q_knownPower]))] H := hP
      replace hD : va_D A [(q_exponents, .inl (k_exponents, 16, .inl x_exponents)), (q_knownPower, .inr (1, [.ref q_knownPower_rest, .ref q_knownPower_shares, .int x_knownPower_known])), (q_this, .inr (3, [.ref q_exponents, .int x_count, .ref q_byElement, .ref q_byLetter, .ref q_hullByLetter, .int x_settled, .ref q_minors, .ref q_knownPower]))] := hD
      refine lv_iload_n hx hb d_SR_put_9 rfl (lv_at hl 3 rfl) ?_
      refine go_SR_requireExponentx (wr := [(q_exponents, .inl (k_exponents, 16, .inl x_exponents)), (q_knownPower, .inr (1, [.ref q_knownPower_rest, .ref q_knownPower_shares, .int x_knownPower_known])), (q_this, .inr (3, [.ref q_exponents, .int x_count, .ref q_byElement, .ref q_byLetter, .ref q_hullByLetter, .int x_settled, .ref q_minors, .ref q_knownPower]))]) ⟨hx, hb, hml, hown, hts⟩ (zz_cwS 1 hts tw_337 tw_335 tw_336 tw_31 ⟨by decide, by decide, by decide +kernel⟩ ⟨Nat.le_of_ble_eq_true rfl, Nat.le_of_ble_eq_true rfl⟩) hl9 hX hK hP hD hS hA [] [0, 1, 2] [] rfl rfl (by decide) rfl (by decide) (by decide) rfl hw hl.1 (Nat.le_of_ble_eq_true rfl) d_SR_put_10 ⟨Nat.le_of_ble_eq_true rfl, Nat.le_of_ble_eq_true rfl⟩ (fun E9 ce q9 H locs hw hP hD hS hce hcv hcl => ?_)
      replace hP : va_P (dC, dI) zz_cl [(q_exponents, .inl (k_exponents, 16, .inl x_exponents)), (q_knownPower, .inr (1, [.ref q_knownPower_rest, .ref q_knownPower_shares, .int x_knownPower_known])), (q_this, .inr (3, [.ref q_exponents, .int x_count, .ref q_byElement, .ref q_byLetter, .ref q_hullByLetter, .int x_settled, .ref q_minors, .ref q_knownPower]))] H := hP
      replace hD : va_D A [(q_exponents, .inl (k_exponents, 16, .inl x_exponents)), (q_knownPower, .inr (1, [.ref q_knownPower_rest, .ref q_knownPower_shares, .int x_knownPower_known])), (q_this, .inr (3, [.ref q_exponents, .int x_count, .ref q_byElement, .ref q_byLetter, .ref q_hullByLetter, .int x_settled, .ref q_minors, .ref q_knownPower]))] := hD
      exact vx_out (E := E9) (fun x hx => (hne x hx).elim) hlocks hce hcv hcl (fun t ht ha => ⟨(E9, (x_settled, x_exponents, x_knownPower_known)), hw, ⟨rfl, by rw [ht]; exact hP.sub [2, 0, 1] rfl, va_K.moved ha hK, hD.sub [2, 0, 1] (by decide) rfl⟩, hS.F ht⟩) hS.2.2 (Nat.le_of_ble_eq_true rfl) (Nat.le_of_ble_eq_true rfl)
set_option maxHeartbeats 4000000 in
set_option maxRecDepth 100000 in
theorem go_SR_putx {p : Program} {l : Launch} {e : Env} {R : Room} {s : State} {m : MethodId} {args : Array Value} {below : List Frame} {meth : Method} {c : Code} {H : Heap} {locs : List Loc} {cells slots : Nat} {Q : State → Prop} {cc : ByteArray} {nL : Nat} {Ts : List Cond} {own : String} {index : Nat} {A0 : Nat → Prop} {dC : Nat → ClassId} {dI : Nat → Nat → Nat} {ws wr : va_W} {tys : List (ClassId × FieldType)} {q_this q_exponents q_byElement q_byLetter q_hullByLetter q_minors q_knownPower q_knownPower_rest q_knownPower_shares : Nat} {k_exponents : ClassId} {sa : Nat → Nat} {x_count : Int32} {x_settled : Int32} {x_exponents : Nat → Int32} {x_knownPower_known : Int32} {a_0 : Int32} {a_1 : Int32} {a_2 : Int32} {px : String → Int32 → (Nat → Int32) → Int32 → Prop} (S : CallFix p m c cc nL s args Ts own) (cw : CallW R s args own "StructureRows" index y_SR_put b_SR_put 5 (some .boolean) (zz_w y_SR_put b_SR_put 5 (some .boolean)) rm_SR_putx 1 6 3) (hl9 : l.stackTraces = false) (hX : zz_X sa A0 s) (hK : va_K (dC, dI) zz_cl tys s) (hP : va_P (dC, dI) zz_cl ws H) (hD : va_D A0 ws) (hS : va_S A0 s.heap H locs) (hA : ∀ q, s.heap.size ≤ q → A0 q) (isC isR kt : List Nat) (h1 : isC.filterMap (fun i => ws[i]?) = [(q_this, .inr (3, [.ref q_exponents, .int x_count, .ref q_byElement, .ref q_byLetter, .ref q_hullByLetter, .int x_settled, .ref q_minors, .ref q_knownPower])), (q_exponents, .inl (k_exponents, 16, .inl x_exponents)), (q_knownPower, .inr (1, [.ref q_knownPower_rest, .ref q_knownPower_shares, .int x_knownPower_known]))]) (h2 : isC.map (fun i => ws[i]?) = ([(q_this, .inr (3, [.ref q_exponents, .int x_count, .ref q_byElement, .ref q_byLetter, .ref q_hullByLetter, .int x_settled, .ref q_minors, .ref q_knownPower])), (q_exponents, .inl (k_exponents, 16, .inl x_exponents)), (q_knownPower, .inr (1, [.ref q_knownPower_rest, .ref q_knownPower_shares, .int x_knownPower_known]))] : va_W).map some) (h3 : va_nd isC = true) (h4 : isR.map (fun i => ws[i]?) = wr.map some) (h5 : va_nd isR = true) (h6 : ∀ i ∈ isR, i ∉ isC) (h7 : kt.filterMap (fun i => tys[i]?) = [(k_exponents, .int)]) (hw : wp_SR_putx x_count x_settled x_exponents x_knownPower_known a_0 a_1 a_2 px) {pc : Nat} {ls : Array Slot} {rest : List Value} (hsize : ls.size = nL) (hrest : (rest.map fun v => v.category).sum ≤ 8) (hdg : decode cc pc = .ok (.invokevirtual index, 3)) (hf : cells + 1 ≤ R.cells ∧ slots + 6 ≤ R.slots) (kx : ∀ (E9 : String) (m0 : Int32) (m1 : Nat → Int32) (m2 : Int32) (ce : Cell) (q9 : Addr) (H1 : Heap) (locs1 : List Loc), px E9 m0 m1 m2 → va_P (dC, dI) zz_cl (wr ++ [(q_this, .inr (3, [.ref q_exponents, .int x_count, .ref q_byElement, .ref q_byLetter, .ref q_hullByLetter, .int m0, .ref q_minors, .ref q_knownPower])), (q_exponents, .inl (k_exponents, 16, .inl m1)), (q_knownPower, .inr (1, [.ref q_knownPower_rest, .ref q_knownPower_shares, .int m2]))]) H1 → va_D A0 (wr ++ [(q_this, .inr (3, [.ref q_exponents, .int x_count, .ref q_byElement, .ref q_byLetter, .ref q_hullByLetter, .int m0, .ref q_minors, .ref q_knownPower])), (q_exponents, .inl (k_exponents, 16, .inl m1)), (q_knownPower, .inr (1, [.ref q_knownPower_rest, .ref q_knownPower_shares, .int m2]))]) → va_S A0 s.heap H1 locs1 → H1[q9]? = some ce → ce.vm = .none → s.vm.findClass E9 = some ce.cls → vx_W p l e R s m args below meth c H1 locs1 (cells + 1) (slots + 6) Q (F0 m pc ls rest) q9) : W p l e R s m args below meth c H locs cells slots Q (F0 m pc ls (.int a_2 :: .int a_1 :: .int a_0 :: .ref q_this :: rest)) := by
  have hPc := hP.sub (ws' := [(q_this, .inr (3, [.ref q_exponents, .int x_count, .ref q_byElement, .ref q_byLetter, .ref q_hullByLetter, .int x_settled, .ref q_minors, .ref q_knownPower])), (q_exponents, .inl (k_exponents, 16, .inl x_exponents)), (q_knownPower, .inr (1, [.ref q_knownPower_rest, .ref q_knownPower_shares, .int x_knownPower_known]))]) isC h1
  have hDc := hD.sub (ws' := [(q_this, .inr (3, [.ref q_exponents, .int x_count, .ref q_byElement, .ref q_byLetter, .ref q_hullByLetter, .int x_settled, .ref q_minors, .ref q_knownPower])), (q_exponents, .inl (k_exponents, 16, .inl x_exponents)), (q_knownPower, .inr (1, [.ref q_knownPower_rest, .ref q_knownPower_shares, .int x_knownPower_known]))]) isC h3 h2
  have hKc := hK.sub (tys' := [(k_exponents, .int)]) kt h7
  have hFc := va_free (wc := [(q_this, .inr (3, [.ref q_exponents, .int x_count, .ref q_byElement, .ref q_byLetter, .ref q_hullByLetter, .int x_settled, .ref q_minors, .ref q_knownPower])), (q_exponents, .inl (k_exponents, 16, .inl x_exponents)), (q_knownPower, .inr (1, [.ref q_knownPower_rest, .ref q_knownPower_shares, .int x_knownPower_known]))]) hD hS hA isC h2
  refine vx_callv (vx_runV (As := [.int a_0, .int a_1, .int a_2]) (rest := rest) S (c_SR_putx l hl9 sa dC dI q_this q_exponents q_byElement q_byLetter q_hullByLetter q_minors q_knownPower q_knownPower_rest q_knownPower_shares k_exponents H.size x_count x_settled x_exponents x_knownPower_known a_0 a_1 a_2 px hw) cw ⟨zz_blindX, va_recv hKc hPc (ci := 3) (q0 := 0) rfl rfl, fun U hU hW => ⟨rfl, by rw [hU], by rw [hU]; exact hPc, va_K.moved hW.alike hKc, hDc.weaken (fun _ _ _ _ => trivial), zz_X_to hX hS hFc hU hW⟩⟩ rfl rfl hsize rfl (lv_room hrest) hdg hf) hS (fun q _ h => hFc q h) hFc (fun q _ h => hFc q h) (fun E9 ce q9 u t H1 locs1 ht hvm hp hB hz1 hk1 hS1 hce hcv hcl => ?_) (fun u t H1 locs1 ht hvm hf9 hB hz1 hk1 hS1 => hf9.elim)
  obtain ⟨hE, hP1, hK1, hD1⟩ := hB
  rw [ht] at hP1
  obtain ⟨hP2, hD2⟩ := va_join (wr := wr) (w1 := [(q_this, .inr (3, [.ref q_exponents, .int x_count, .ref q_byElement, .ref q_byLetter, .ref q_hullByLetter, .int u.2.1, .ref q_minors, .ref q_knownPower])), (q_exponents, .inl (k_exponents, 16, .inl u.2.2.1)), (q_knownPower, .inr (1, [.ref q_knownPower_rest, .ref q_knownPower_shares, .int u.2.2.2]))]) hP hD isC isR h2 h4 h5 h6 hk1 hFc hP1 hD1
  subst hE
  exact kx u.1 u.2.1 u.2.2.1 u.2.2.2 ce q9 H1 locs1 hp hP2 hD2 hS1 hce hcv hcl
abbrev rm_SR_at : Room := { frames := 2, cells := 0, slots := 0, locals := 42 }
abbrev qz_SR_at (dC : Nat → ClassId) (dI : Nat → Nat → Nat) (q_this q_exponents q_byElement q_byLetter q_hullByLetter q_minors q_knownPower : Nat) (k_exponents : ClassId) (x_count : Int32) (x_settled : Int32) (x_exponents : Nat → Int32) (post : Int32 → Prop) (A : Nat → Prop) : Array Value → State → Outcome → State → Prop := va_Qi (fun (r : Int32) (_ : Unit) => post r) (fun (u : Unit) (t : State) => va_P (dC, dI) zz_cl [(q_this, .inr (3, [.ref q_exponents, .int x_count, .ref q_byElement, .ref q_byLetter, .ref q_hullByLetter, .int x_settled, .ref q_minors, .ref q_knownPower])), (q_exponents, .inl (k_exponents, 16, .inl x_exponents))] t.heap ∧ va_K (dC, dI) zz_cl [(k_exponents, .int)] t ∧ va_D A [(q_this, .inr (3, [.ref q_exponents, .int x_count, .ref q_byElement, .ref q_byLetter, .ref q_hullByLetter, .int x_settled, .ref q_minors, .ref q_knownPower])), (q_exponents, .inl (k_exponents, 16, .inl x_exponents))]) A
def cx_SR_at (p : Program) (s : State) (m : MethodId) (args : Array Value) (meth : Method) (c : Code) : Prop := p.tables.exec = Jvm.exec ∧ c.code = b_SR_at ∧ meth.sig.returnType = (some .int) ∧ c.maxLocals = 3 ∧ s.vm.findClass "StructureRows" = some m.cls ∧ (∀ w ∈ zz_GW, w.before args s = true) ∧ meth.locks = false
def wp_SR_at (x_count : Int32) (x_settled : Int32) (x_exponents : Nat → Int32) (a_0 : Int32) (a_1 : Int32) (post : Int32 → Prop) : Prop := wp_SR_requireElement x_count x_settled a_0  (wp_SR_requireLetter a_1  (vp_in ((a_0 * 4) + a_1) 16 ∧ (post (x_exponents ((a_0 * 4) + a_1).toNatClampNeg))))
set_option maxHeartbeats 4000000 in
set_option maxRecDepth 100000 in
theorem c_SR_at (l : Launch) (dC : Nat → ClassId) (dI : Nat → Nat → Nat) (q_this q_exponents q_byElement q_byLetter q_hullByLetter q_minors q_knownPower : Nat) (k_exponents : ClassId) (sz : Nat) (x_count : Int32) (x_settled : Int32) (x_exponents : Nat → Int32) (a_0 : Int32) (a_1 : Int32) (post : Int32 → Prop) (hw : wp_SR_at x_count x_settled x_exponents a_0 a_1 post) : Met l y_SR_at (zz_w y_SR_at b_SR_at 3 (some .int)) rm_SR_at (va_Pc [.ref q_this, .int a_0, .int a_1] (fun U => U.heap.size = sz ∧ va_P (dC, dI) zz_cl [(q_this, .inr (3, [.ref q_exponents, .int x_count, .ref q_byElement, .ref q_byLetter, .ref q_hullByLetter, .int x_settled, .ref q_minors, .ref q_knownPower])), (q_exponents, .inl (k_exponents, 16, .inl x_exponents))] U.heap ∧ va_K (dC, dI) zz_cl [(k_exponents, .int)] U ∧ va_D (fun _ => True) [(q_this, .inr (3, [.ref q_exponents, .int x_count, .ref q_byElement, .ref q_byLetter, .ref q_hullByLetter, .int x_settled, .ref q_minors, .ref q_knownPower])), (q_exponents, .inl (k_exponents, 16, .inl x_exponents))])) (qz_SR_at dC dI q_this q_exponents q_byElement q_byLetter q_hullByLetter q_minors q_knownPower k_exponents x_count x_settled x_exponents post (va_A [(q_this, .inr (3, [.ref q_exponents, .int x_count, .ref q_byElement, .ref q_byLetter, .ref q_hullByLetter, .int x_settled, .ref q_minors, .ref q_knownPower])), (q_exponents, .inl (k_exponents, 16, .inl x_exponents))] sz)) 0 0 (va_A [(q_this, .inr (3, [.ref q_exponents, .int x_count, .ref q_byElement, .ref q_byLetter, .ref q_hullByLetter, .int x_settled, .ref q_minors, .ref q_knownPower])), (q_exponents, .inl (k_exponents, 16, .inl x_exponents))] sz) := by
  refine Met.ofW (cc := b_SR_at) (maxL := 3) (ret := (some .int)) (by decide) rfl ?_
  intro p e s m args below meth c s₁ B hml hv
  obtain ⟨rfl, hsz, hP, hK, hD0⟩ := hv
  have hx := B.exec
  have hb := B.bytes
  have hr := B.returns
  have hts0 := atoms_spec (ws := (zz_w y_SR_at b_SR_at 3 (some .int))) B.pre
  have hts : ∀ w ∈ zz_GW, w.before _ s = true := fun w h => hts0 w (List.mem_cons_of_mem _ h)
  clear hts0
  have hown : s.vm.findClass "StructureRows" = some m.cls := findClass_of_methodNamed B.named
  have hlocks := B.notSynchronized
  have C0 : cx_SR_at p s m _ meth c := ⟨hx, hb, hr, hml, hown, hts, hlocks⟩
  subst hsz
  have hD := hD0.self (sz := s.heap.size)
  generalize hAe : va_A [(q_this, .inr (3, [.ref q_exponents, .int x_count, .ref q_byElement, .ref q_byLetter, .ref q_hullByLetter, .int x_settled, .ref q_minors, .ref q_knownPower])), (q_exponents, .inl (k_exponents, 16, .inl x_exponents))] s.heap.size = A at hD ⊢
  have hA : ∀ q : Nat, s.heap.size ≤ q → A q := fun q h => by rw [← hAe]; exact Or.inr h
  clear hAe hD0
  have hS : va_S A s.heap s.heap [] := va_S.rf
  have hl := lv_entry ([.ref q_this, .int a_0, .int a_1]) (n := 3) (Nat.le_of_ble_eq_true rfl)
  rw [lg_entry_eq]
  generalize (lg_sl ([.ref q_this, .int a_0, .int a_1]) ++ List.replicate (3 - (lg_sl ([.ref q_this, .int a_0, .int a_1])).length) Slot.unset).toArray = ls at hl ⊢
  replace hl : lv_has ls 3 [(0, .ref q_this), (1, .int a_0), (2, .int a_1)] := hl
  unfold wp_SR_at at hw
  change W p l e rm_SR_at s m _ below meth c s.heap [] 0 0 _ _
  refine lv_aload_n hx hb d_SR_at_0 rfl (lv_at hl 0 rfl) ?_
  refine lv_iload_n hx hb d_SR_at_1 rfl (lv_at hl 1 rfl) ?_
  refine go_SR_requireElement (wr := [(q_exponents, .inl (k_exponents, 16, .inl x_exponents))]) ⟨hx, hb, hml, hown, hts⟩ (zz_cwV 1 hts tw_312 tw_309 tw_311 tw_11 tw_31 ⟨by decide, by decide, by decide +kernel⟩ ⟨Nat.le_of_ble_eq_true rfl, Nat.le_of_ble_eq_true rfl⟩) hK hP hD hS hA [0] [1] [] rfl rfl (by decide) rfl (by decide) (by decide) rfl hw hl.1 (Nat.le_of_ble_eq_true rfl) d_SR_at_2 ⟨Nat.le_of_ble_eq_true rfl, Nat.le_of_ble_eq_true rfl⟩ (fun H locs hw hP hD hS => ?_)
  replace hP : va_P (dC, dI) zz_cl [(q_exponents, .inl (k_exponents, 16, .inl x_exponents)), (q_this, .inr (3, [.ref q_exponents, .int x_count, .ref q_byElement, .ref q_byLetter, .ref q_hullByLetter, .int x_settled, .ref q_minors, .ref q_knownPower]))] H := hP
  replace hD : va_D A [(q_exponents, .inl (k_exponents, 16, .inl x_exponents)), (q_this, .inr (3, [.ref q_exponents, .int x_count, .ref q_byElement, .ref q_byLetter, .ref q_hullByLetter, .int x_settled, .ref q_minors, .ref q_knownPower]))] := hD
  refine lv_iload_n hx hb d_SR_at_5 rfl (lv_at hl 2 rfl) ?_
  refine go_SR_requireLetter (wr := [(q_exponents, .inl (k_exponents, 16, .inl x_exponents)), (q_this, .inr (3, [.ref q_exponents, .int x_count, .ref q_byElement, .ref q_byLetter, .ref q_hullByLetter, .int x_settled, .ref q_minors, .ref q_knownPower]))]) ⟨hx, hb, hml, hown, hts⟩ (zz_cwS 1 hts tw_334 tw_332 tw_333 tw_31 ⟨by decide, by decide, by decide +kernel⟩ ⟨Nat.le_of_ble_eq_true rfl, Nat.le_of_ble_eq_true rfl⟩) hK hP hD hS hA [] [0, 1] [] rfl rfl (by decide) rfl (by decide) (by decide) rfl hw hl.1 (Nat.le_of_ble_eq_true rfl) d_SR_at_6 ⟨Nat.le_of_ble_eq_true rfl, Nat.le_of_ble_eq_true rfl⟩ (fun H locs hw hP hD hS => ?_)
  replace hP : va_P (dC, dI) zz_cl [(q_exponents, .inl (k_exponents, 16, .inl x_exponents)), (q_this, .inr (3, [.ref q_exponents, .int x_count, .ref q_byElement, .ref q_byLetter, .ref q_hullByLetter, .int x_settled, .ref q_minors, .ref q_knownPower]))] H := hP
  replace hD : va_D A [(q_exponents, .inl (k_exponents, 16, .inl x_exponents)), (q_this, .inr (3, [.ref q_exponents, .int x_count, .ref q_byElement, .ref q_byLetter, .ref q_hullByLetter, .int x_settled, .ref q_minors, .ref q_knownPower]))] := hD
  refine lv_aload_n hx hb d_SR_at_9 rfl (lv_at hl 0 rfl) ?_
  refine va_get (D := (dC, dI)) (ci := 3) (v := .ref q_exponents) (C := "StructureRows") (T := T_SR) (N := 8) hx hb hts in_SR hown hK hP 1 rfl rfl 0 (by decide) (hts _ tw_105) (fun _ h9 => h9) rfl d_SR_at_10 ?_
  refine lv_iload_n hx hb d_SR_at_13 rfl (lv_at hl 1 rfl) ?_
  refine lv_iconst (v := 4) hx hb d_SR_at_14 (by decide) ?_
  refine lv_imul hx hb d_SR_at_15 ?_
  refine lv_iload_n hx hb d_SR_at_16 rfl (lv_at hl 2 rfl) ?_
  refine lv_iadd hx hb d_SR_at_17 ?_
  obtain ⟨h_1, hw⟩ := hw
  refine va_iald hx hb hK hP 0 0 rfl rfl h_1 d_SR_at_18 ?_
  exact W.iret (v := x_exponents ((a_0 * 4) + a_1).toNatClampNeg) hx hb hr (fun t ht hW => ⟨⟨x_exponents ((a_0 * 4) + a_1).toNatClampNeg, (), rfl, hw, by rw [ht]; exact hP.sub [1, 0] rfl, va_K.moved hW.alike hK, hD.sub [1, 0] (by decide) rfl⟩, hS.F ht⟩) hS.2.2 d_SR_at_19
set_option maxHeartbeats 4000000 in
set_option maxRecDepth 100000 in
theorem go_SR_at {p : Program} {l : Launch} {e : Env} {R : Room} {s : State} {m : MethodId} {args : Array Value} {below : List Frame} {meth : Method} {c : Code} {H : Heap} {locs : List Loc} {cells slots : Nat} {Q : State → Prop} {cc : ByteArray} {nL : Nat} {Ts : List Cond} {own : String} {index : Nat} {A0 : Nat → Prop} {H0 : Heap} {dC : Nat → ClassId} {dI : Nat → Nat → Nat} {ws wr : va_W} {tys : List (ClassId × FieldType)} {q_this q_exponents q_byElement q_byLetter q_hullByLetter q_minors q_knownPower : Nat} {k_exponents : ClassId} {x_count : Int32} {x_settled : Int32} {x_exponents : Nat → Int32} {a_0 : Int32} {a_1 : Int32} {post : Int32 → Prop} (S : CallFix p m c cc nL s args Ts own) (cw : CallW R s args own "StructureRows" index y_SR_at b_SR_at 3 (some .int) (zz_w y_SR_at b_SR_at 3 (some .int)) rm_SR_at 0 0 2) (hK : va_K (dC, dI) zz_cl tys s) (hP : va_P (dC, dI) zz_cl ws H) (hD : va_D A0 ws) (hS : va_S A0 H0 H locs) (hA : ∀ q, H0.size ≤ q → A0 q) (isC isR kt : List Nat) (h1 : isC.filterMap (fun i => ws[i]?) = [(q_this, .inr (3, [.ref q_exponents, .int x_count, .ref q_byElement, .ref q_byLetter, .ref q_hullByLetter, .int x_settled, .ref q_minors, .ref q_knownPower])), (q_exponents, .inl (k_exponents, 16, .inl x_exponents))]) (h2 : isC.map (fun i => ws[i]?) = ([(q_this, .inr (3, [.ref q_exponents, .int x_count, .ref q_byElement, .ref q_byLetter, .ref q_hullByLetter, .int x_settled, .ref q_minors, .ref q_knownPower])), (q_exponents, .inl (k_exponents, 16, .inl x_exponents))] : va_W).map some) (h3 : va_nd isC = true) (h4 : isR.map (fun i => ws[i]?) = wr.map some) (h5 : va_nd isR = true) (h6 : ∀ i ∈ isR, i ∉ isC) (h7 : kt.filterMap (fun i => tys[i]?) = [(k_exponents, .int)]) (hw : wp_SR_at x_count x_settled x_exponents a_0 a_1 post) {pc : Nat} {ls : Array Slot} {rest : List Value} (hsize : ls.size = nL) (hrest : (rest.map fun v => v.category).sum ≤ 8) (hdg : decode cc pc = .ok (.invokevirtual index, 3)) (hf : cells + 0 ≤ R.cells ∧ slots + 0 ≤ R.slots) (kk : ∀ (r : Int32) (H1 : Heap) (locs1 : List Loc), post r → va_P (dC, dI) zz_cl (wr ++ [(q_this, .inr (3, [.ref q_exponents, .int x_count, .ref q_byElement, .ref q_byLetter, .ref q_hullByLetter, .int x_settled, .ref q_minors, .ref q_knownPower])), (q_exponents, .inl (k_exponents, 16, .inl x_exponents))]) H1 → va_D A0 (wr ++ [(q_this, .inr (3, [.ref q_exponents, .int x_count, .ref q_byElement, .ref q_byLetter, .ref q_hullByLetter, .int x_settled, .ref q_minors, .ref q_knownPower])), (q_exponents, .inl (k_exponents, 16, .inl x_exponents))]) → va_S A0 H0 H1 locs1 → W p l e R s m args below meth c H1 locs1 (cells + 0) (slots + 0) Q (F0 m (pc + 3) ls (.int r :: rest))) : W p l e R s m args below meth c H locs cells slots Q (F0 m pc ls (.int a_1 :: .int a_0 :: .ref q_this :: rest)) := by
  have hPc := hP.sub (ws' := [(q_this, .inr (3, [.ref q_exponents, .int x_count, .ref q_byElement, .ref q_byLetter, .ref q_hullByLetter, .int x_settled, .ref q_minors, .ref q_knownPower])), (q_exponents, .inl (k_exponents, 16, .inl x_exponents))]) isC h1
  have hDc := hD.sub (ws' := [(q_this, .inr (3, [.ref q_exponents, .int x_count, .ref q_byElement, .ref q_byLetter, .ref q_hullByLetter, .int x_settled, .ref q_minors, .ref q_knownPower])), (q_exponents, .inl (k_exponents, 16, .inl x_exponents))]) isC h3 h2
  have hKc := hK.sub (tys' := [(k_exponents, .int)]) kt h7
  have hFc := va_free (wc := [(q_this, .inr (3, [.ref q_exponents, .int x_count, .ref q_byElement, .ref q_byLetter, .ref q_hullByLetter, .int x_settled, .ref q_minors, .ref q_knownPower])), (q_exponents, .inl (k_exponents, 16, .inl x_exponents))]) hD hS hA isC h2
  refine va_calli (va_runV (As := [.int a_0, .int a_1]) (rest := rest) S (c_SR_at l dC dI q_this q_exponents q_byElement q_byLetter q_hullByLetter q_minors q_knownPower k_exponents H.size x_count x_settled x_exponents a_0 a_1 post hw) cw ⟨zz_blind, va_recv hKc hPc (ci := 3) (q0 := 0) rfl rfl, fun U hU hW => ⟨rfl, by rw [hU], by rw [hU]; exact hPc, va_K.moved hW.alike hKc, hDc.weaken (fun _ _ _ _ => trivial)⟩⟩ rfl rfl hsize rfl (lv_room hrest) hdg hf) hS (fun q _ h => hFc q h) hFc (fun r u t H1 locs ht hvm hw hB hz1 hk1 hS => ?_)
  obtain ⟨hP1, hK1, hD1⟩ := hB
  rw [ht] at hP1
  obtain ⟨hP2, hD2⟩ := va_join (wr := wr) (w1 := [(q_this, .inr (3, [.ref q_exponents, .int x_count, .ref q_byElement, .ref q_byLetter, .ref q_hullByLetter, .int x_settled, .ref q_minors, .ref q_knownPower])), (q_exponents, .inl (k_exponents, 16, .inl x_exponents))]) hP hD isC isR h2 h4 h5 h6 hk1 hFc hP1 hD1
  exact kk r H1 locs hw hP2 hD2 hS
abbrev rm_SR_atx : Room := { frames := 8, cells := 1, slots := 6, locals := 142 }
abbrev xz_SR_atx (dC : Nat → ClassId) (dI : Nat → Nat → Nat) (q_this q_exponents q_byElement q_byLetter q_hullByLetter q_minors q_knownPower : Nat) (k_exponents : ClassId) (x_count : Int32) (x_settled : Int32) (x_exponents : Nat → Int32) (px : String → Prop) (A : Nat → Prop) : String → State → State → Prop := vx_X (fun (u : String × (Unit)) => px u.1) (fun (E9 : String) (u : String × (Unit)) (t : State) => u.1 = E9 ∧ va_P (dC, dI) zz_cl [(q_this, .inr (3, [.ref q_exponents, .int x_count, .ref q_byElement, .ref q_byLetter, .ref q_hullByLetter, .int x_settled, .ref q_minors, .ref q_knownPower])), (q_exponents, .inl (k_exponents, 16, .inl x_exponents))] t.heap ∧ va_K (dC, dI) zz_cl [(k_exponents, .int)] t ∧ va_D A [(q_this, .inr (3, [.ref q_exponents, .int x_count, .ref q_byElement, .ref q_byLetter, .ref q_hullByLetter, .int x_settled, .ref q_minors, .ref q_knownPower])), (q_exponents, .inl (k_exponents, 16, .inl x_exponents))]) A
def cx_SR_atx (p : Program) (l : Launch) (s : State) (m : MethodId) (args : Array Value) (meth : Method) (c : Code) : Prop := p.tables.exec = Jvm.exec ∧ c.code = b_SR_at ∧ meth.sig.returnType = (some .int) ∧ c.maxLocals = 3 ∧ s.vm.findClass "StructureRows" = some m.cls ∧ (∀ w ∈ zz_GW, w.before args s = true) ∧ meth.locks = false ∧ (∀ x ∈ c.exceptionTable.toList, False) ∧ l.stackTraces = false
def wp_SR_atx (x_count : Int32) (x_settled : Int32) (x_exponents : Nat → Int32) (a_0 : Int32) (a_1 : Int32) (px : String → Prop) : Prop := (wp_SR_requireElementx x_count x_settled a_0 (fun (E9 : String) => px E9)) ∨ (wp_SR_requireElement x_count x_settled a_0  (wp_SR_requireLetterx a_1 (fun (E9 : String) => px E9)))
set_option maxHeartbeats 4000000 in
set_option maxRecDepth 100000 in
theorem c_SR_atx (l : Launch) (hl9 : l.stackTraces = false) (sa : Nat → Nat) (dC : Nat → ClassId) (dI : Nat → Nat → Nat) (q_this q_exponents q_byElement q_byLetter q_hullByLetter q_minors q_knownPower : Nat) (k_exponents : ClassId) (sz : Nat) (x_count : Int32) (x_settled : Int32) (x_exponents : Nat → Int32) (a_0 : Int32) (a_1 : Int32) (px : String → Prop) (hw : wp_SR_atx x_count x_settled x_exponents a_0 a_1 px) : vx_Met l y_SR_at (zz_w y_SR_at b_SR_at 3 (some .int)) rm_SR_atx (va_Pc [.ref q_this, .int a_0, .int a_1] (fun U => U.heap.size = sz ∧ va_P (dC, dI) zz_cl [(q_this, .inr (3, [.ref q_exponents, .int x_count, .ref q_byElement, .ref q_byLetter, .ref q_hullByLetter, .int x_settled, .ref q_minors, .ref q_knownPower])), (q_exponents, .inl (k_exponents, 16, .inl x_exponents))] U.heap ∧ va_K (dC, dI) zz_cl [(k_exponents, .int)] U ∧ va_D (fun _ => True) [(q_this, .inr (3, [.ref q_exponents, .int x_count, .ref q_byElement, .ref q_byLetter, .ref q_hullByLetter, .int x_settled, .ref q_minors, .ref q_knownPower])), (q_exponents, .inl (k_exponents, 16, .inl x_exponents))] ∧ zz_X sa (va_A [(q_this, .inr (3, [.ref q_exponents, .int x_count, .ref q_byElement, .ref q_byLetter, .ref q_hullByLetter, .int x_settled, .ref q_minors, .ref q_knownPower])), (q_exponents, .inl (k_exponents, 16, .inl x_exponents))] sz) U)) (va_Qv (fun (_ : Unit) => False) (fun _ _ => True) (va_A [(q_this, .inr (3, [.ref q_exponents, .int x_count, .ref q_byElement, .ref q_byLetter, .ref q_hullByLetter, .int x_settled, .ref q_minors, .ref q_knownPower])), (q_exponents, .inl (k_exponents, 16, .inl x_exponents))] sz)) (xz_SR_atx dC dI q_this q_exponents q_byElement q_byLetter q_hullByLetter q_minors q_knownPower k_exponents x_count x_settled x_exponents px (va_A [(q_this, .inr (3, [.ref q_exponents, .int x_count, .ref q_byElement, .ref q_byLetter, .ref q_hullByLetter, .int x_settled, .ref q_minors, .ref q_knownPower])), (q_exponents, .inl (k_exponents, 16, .inl x_exponents))] sz)) 1 6 (va_A [(q_this, .inr (3, [.ref q_exponents, .int x_count, .ref q_byElement, .ref q_byLetter, .ref q_hullByLetter, .int x_settled, .ref q_minors, .ref q_knownPower])), (q_exponents, .inl (k_exponents, 16, .inl x_exponents))] sz) := by
  refine vx_ofW (cc := b_SR_at) (maxL := 3) (ret := (some .int)) (by decide) rfl ?_
  intro p e s m args below meth c s₁ B hml hne hv
  obtain ⟨rfl, hsz, hP, hK, hD0, hX⟩ := hv
  have hx := B.exec
  have hb := B.bytes
  have hr := B.returns
  have hts0 := atoms_spec (ws := (zz_w y_SR_at b_SR_at 3 (some .int))) B.pre
  have hts : ∀ w ∈ zz_GW, w.before _ s = true := fun w h => hts0 w (List.mem_cons_of_mem _ h)
  clear hts0
  have hown : s.vm.findClass "StructureRows" = some m.cls := findClass_of_methodNamed B.named
  have hlocks := B.notSynchronized
  have C0 : cx_SR_atx p l s m _ meth c := ⟨hx, hb, hr, hml, hown, hts, hlocks, hne, hl9⟩
  subst hsz
  have hD := hD0.self (sz := s.heap.size)
  generalize hAe : va_A [(q_this, .inr (3, [.ref q_exponents, .int x_count, .ref q_byElement, .ref q_byLetter, .ref q_hullByLetter, .int x_settled, .ref q_minors, .ref q_knownPower])), (q_exponents, .inl (k_exponents, 16, .inl x_exponents))] s.heap.size = A at hD hX ⊢
  have hA : ∀ q : Nat, s.heap.size ≤ q → A q := fun q h => by rw [← hAe]; exact Or.inr h
  clear hAe hD0
  have hS : va_S A s.heap s.heap [] := va_S.rf
  have hl := lv_entry ([.ref q_this, .int a_0, .int a_1]) (n := 3) (Nat.le_of_ble_eq_true rfl)
  rw [lg_entry_eq]
  generalize (lg_sl ([.ref q_this, .int a_0, .int a_1]) ++ List.replicate (3 - (lg_sl ([.ref q_this, .int a_0, .int a_1])).length) Slot.unset).toArray = ls at hl ⊢
  replace hl : lv_has ls 3 [(0, .ref q_this), (1, .int a_0), (2, .int a_1)] := hl
  unfold wp_SR_atx at hw
  change W p l e rm_SR_atx s m _ below meth c s.heap [] 0 0 _ _
  refine lv_aload_n hx hb d_SR_at_0 rfl (lv_at hl 0 rfl) ?_
  refine lv_iload_n hx hb d_SR_at_1 rfl (lv_at hl 1 rfl) ?_
  rcases hw with hw | hw
  · refine go_SR_requireElementx (wr := [(q_exponents, .inl (k_exponents, 16, .inl x_exponents))]) ⟨hx, hb, hml, hown, hts⟩ (zz_cwV 1 hts tw_312 tw_309 tw_311 tw_11 tw_31 ⟨by decide, by decide, by decide +kernel⟩ ⟨Nat.le_of_ble_eq_true rfl, Nat.le_of_ble_eq_true rfl⟩) hl9 hX hK hP hD hS hA [0] [1] [] rfl rfl (by decide) rfl (by decide) (by decide) rfl hw hl.1 (Nat.le_of_ble_eq_true rfl) d_SR_at_2 ⟨Nat.le_of_ble_eq_true rfl, Nat.le_of_ble_eq_true rfl⟩ (fun E9 ce q9 H locs hw hP hD hS hce hcv hcl => ?_)
    replace hP : va_P (dC, dI) zz_cl [(q_exponents, .inl (k_exponents, 16, .inl x_exponents)), (q_this, .inr (3, [.ref q_exponents, .int x_count, .ref q_byElement, .ref q_byLetter, .ref q_hullByLetter, .int x_settled, .ref q_minors, .ref q_knownPower]))] H := hP
    replace hD : va_D A [(q_exponents, .inl (k_exponents, 16, .inl x_exponents)), (q_this, .inr (3, [.ref q_exponents, .int x_count, .ref q_byElement, .ref q_byLetter, .ref q_hullByLetter, .int x_settled, .ref q_minors, .ref q_knownPower]))] := hD
    exact vx_out (E := E9) (fun x hx => (hne x hx).elim) hlocks hce hcv hcl (fun t ht ha => ⟨(E9, ()), hw, ⟨rfl, by rw [ht]; exact hP.sub [1, 0] rfl, va_K.moved ha hK, hD.sub [1, 0] (by decide) rfl⟩, hS.F ht⟩) hS.2.2 (Nat.le_of_ble_eq_true rfl) (Nat.le_of_ble_eq_true rfl)
  · refine go_SR_requireElement (wr := [(q_exponents, .inl (k_exponents, 16, .inl x_exponents))]) ⟨hx, hb, hml, hown, hts⟩ (zz_cwV 1 hts tw_312 tw_309 tw_311 tw_11 tw_31 ⟨by decide, by decide, by decide +kernel⟩ ⟨Nat.le_of_ble_eq_true rfl, Nat.le_of_ble_eq_true rfl⟩) hK hP hD hS hA [0] [1] [] rfl rfl (by decide) rfl (by decide) (by decide) rfl hw hl.1 (Nat.le_of_ble_eq_true rfl) d_SR_at_2 ⟨Nat.le_of_ble_eq_true rfl, Nat.le_of_ble_eq_true rfl⟩ (fun H locs hw hP hD hS => ?_)
    replace hP : va_P (dC, dI) zz_cl [(q_exponents, .inl (k_exponents, 16, .inl x_exponents)), (q_this, .inr (3, [.ref q_exponents, .int x_count, .ref q_byElement, .ref q_byLetter, .ref q_hullByLetter, .int x_settled, .ref q_minors, .ref q_knownPower]))] H := hP
    replace hD : va_D A [(q_exponents, .inl (k_exponents, 16, .inl x_exponents)), (q_this, .inr (3, [.ref q_exponents, .int x_count, .ref q_byElement, .ref q_byLetter, .ref q_hullByLetter, .int x_settled, .ref q_minors, .ref q_knownPower]))] := hD
    refine lv_iload_n hx hb d_SR_at_5 rfl (lv_at hl 2 rfl) ?_
    refine go_SR_requireLetterx (wr := [(q_exponents, .inl (k_exponents, 16, .inl x_exponents)), (q_this, .inr (3, [.ref q_exponents, .int x_count, .ref q_byElement, .ref q_byLetter, .ref q_hullByLetter, .int x_settled, .ref q_minors, .ref q_knownPower]))]) ⟨hx, hb, hml, hown, hts⟩ (zz_cwS 1 hts tw_334 tw_332 tw_333 tw_31 ⟨by decide, by decide, by decide +kernel⟩ ⟨Nat.le_of_ble_eq_true rfl, Nat.le_of_ble_eq_true rfl⟩) hl9 hX hK hP hD hS hA [] [0, 1] [] rfl rfl (by decide) rfl (by decide) (by decide) rfl hw hl.1 (Nat.le_of_ble_eq_true rfl) d_SR_at_6 ⟨Nat.le_of_ble_eq_true rfl, Nat.le_of_ble_eq_true rfl⟩ (fun E9 ce q9 H locs hw hP hD hS hce hcv hcl => ?_)
    replace hP : va_P (dC, dI) zz_cl [(q_exponents, .inl (k_exponents, 16, .inl x_exponents)), (q_this, .inr (3, [.ref q_exponents, .int x_count, .ref q_byElement, .ref q_byLetter, .ref q_hullByLetter, .int x_settled, .ref q_minors, .ref q_knownPower]))] H := hP
    replace hD : va_D A [(q_exponents, .inl (k_exponents, 16, .inl x_exponents)), (q_this, .inr (3, [.ref q_exponents, .int x_count, .ref q_byElement, .ref q_byLetter, .ref q_hullByLetter, .int x_settled, .ref q_minors, .ref q_knownPower]))] := hD
    exact vx_out (E := E9) (fun x hx => (hne x hx).elim) hlocks hce hcv hcl (fun t ht ha => ⟨(E9, ()), hw, ⟨rfl, by rw [ht]; exact hP.sub [1, 0] rfl, va_K.moved ha hK, hD.sub [1, 0] (by decide) rfl⟩, hS.F ht⟩) hS.2.2 (Nat.le_of_ble_eq_true rfl) (Nat.le_of_ble_eq_true rfl)
set_option maxHeartbeats 4000000 in
set_option maxRecDepth 100000 in
theorem go_SR_atx {p : Program} {l : Launch} {e : Env} {R : Room} {s : State} {m : MethodId} {args : Array Value} {below : List Frame} {meth : Method} {c : Code} {H : Heap} {locs : List Loc} {cells slots : Nat} {Q : State → Prop} {cc : ByteArray} {nL : Nat} {Ts : List Cond} {own : String} {index : Nat} {A0 : Nat → Prop} {dC : Nat → ClassId} {dI : Nat → Nat → Nat} {ws wr : va_W} {tys : List (ClassId × FieldType)} {q_this q_exponents q_byElement q_byLetter q_hullByLetter q_minors q_knownPower : Nat} {k_exponents : ClassId} {sa : Nat → Nat} {x_count : Int32} {x_settled : Int32} {x_exponents : Nat → Int32} {a_0 : Int32} {a_1 : Int32} {px : String → Prop} (S : CallFix p m c cc nL s args Ts own) (cw : CallW R s args own "StructureRows" index y_SR_at b_SR_at 3 (some .int) (zz_w y_SR_at b_SR_at 3 (some .int)) rm_SR_atx 1 6 2) (hl9 : l.stackTraces = false) (hX : zz_X sa A0 s) (hK : va_K (dC, dI) zz_cl tys s) (hP : va_P (dC, dI) zz_cl ws H) (hD : va_D A0 ws) (hS : va_S A0 s.heap H locs) (hA : ∀ q, s.heap.size ≤ q → A0 q) (isC isR kt : List Nat) (h1 : isC.filterMap (fun i => ws[i]?) = [(q_this, .inr (3, [.ref q_exponents, .int x_count, .ref q_byElement, .ref q_byLetter, .ref q_hullByLetter, .int x_settled, .ref q_minors, .ref q_knownPower])), (q_exponents, .inl (k_exponents, 16, .inl x_exponents))]) (h2 : isC.map (fun i => ws[i]?) = ([(q_this, .inr (3, [.ref q_exponents, .int x_count, .ref q_byElement, .ref q_byLetter, .ref q_hullByLetter, .int x_settled, .ref q_minors, .ref q_knownPower])), (q_exponents, .inl (k_exponents, 16, .inl x_exponents))] : va_W).map some) (h3 : va_nd isC = true) (h4 : isR.map (fun i => ws[i]?) = wr.map some) (h5 : va_nd isR = true) (h6 : ∀ i ∈ isR, i ∉ isC) (h7 : kt.filterMap (fun i => tys[i]?) = [(k_exponents, .int)]) (hw : wp_SR_atx x_count x_settled x_exponents a_0 a_1 px) {pc : Nat} {ls : Array Slot} {rest : List Value} (hsize : ls.size = nL) (hrest : (rest.map fun v => v.category).sum ≤ 8) (hdg : decode cc pc = .ok (.invokevirtual index, 3)) (hf : cells + 1 ≤ R.cells ∧ slots + 6 ≤ R.slots) (kx : ∀ (E9 : String) (ce : Cell) (q9 : Addr) (H1 : Heap) (locs1 : List Loc), px E9 → va_P (dC, dI) zz_cl (wr ++ [(q_this, .inr (3, [.ref q_exponents, .int x_count, .ref q_byElement, .ref q_byLetter, .ref q_hullByLetter, .int x_settled, .ref q_minors, .ref q_knownPower])), (q_exponents, .inl (k_exponents, 16, .inl x_exponents))]) H1 → va_D A0 (wr ++ [(q_this, .inr (3, [.ref q_exponents, .int x_count, .ref q_byElement, .ref q_byLetter, .ref q_hullByLetter, .int x_settled, .ref q_minors, .ref q_knownPower])), (q_exponents, .inl (k_exponents, 16, .inl x_exponents))]) → va_S A0 s.heap H1 locs1 → H1[q9]? = some ce → ce.vm = .none → s.vm.findClass E9 = some ce.cls → vx_W p l e R s m args below meth c H1 locs1 (cells + 1) (slots + 6) Q (F0 m pc ls rest) q9) : W p l e R s m args below meth c H locs cells slots Q (F0 m pc ls (.int a_1 :: .int a_0 :: .ref q_this :: rest)) := by
  have hPc := hP.sub (ws' := [(q_this, .inr (3, [.ref q_exponents, .int x_count, .ref q_byElement, .ref q_byLetter, .ref q_hullByLetter, .int x_settled, .ref q_minors, .ref q_knownPower])), (q_exponents, .inl (k_exponents, 16, .inl x_exponents))]) isC h1
  have hDc := hD.sub (ws' := [(q_this, .inr (3, [.ref q_exponents, .int x_count, .ref q_byElement, .ref q_byLetter, .ref q_hullByLetter, .int x_settled, .ref q_minors, .ref q_knownPower])), (q_exponents, .inl (k_exponents, 16, .inl x_exponents))]) isC h3 h2
  have hKc := hK.sub (tys' := [(k_exponents, .int)]) kt h7
  have hFc := va_free (wc := [(q_this, .inr (3, [.ref q_exponents, .int x_count, .ref q_byElement, .ref q_byLetter, .ref q_hullByLetter, .int x_settled, .ref q_minors, .ref q_knownPower])), (q_exponents, .inl (k_exponents, 16, .inl x_exponents))]) hD hS hA isC h2
  refine vx_callv (vx_runV (As := [.int a_0, .int a_1]) (rest := rest) S (c_SR_atx l hl9 sa dC dI q_this q_exponents q_byElement q_byLetter q_hullByLetter q_minors q_knownPower k_exponents H.size x_count x_settled x_exponents a_0 a_1 px hw) cw ⟨zz_blindX, va_recv hKc hPc (ci := 3) (q0 := 0) rfl rfl, fun U hU hW => ⟨rfl, by rw [hU], by rw [hU]; exact hPc, va_K.moved hW.alike hKc, hDc.weaken (fun _ _ _ _ => trivial), zz_X_to hX hS hFc hU hW⟩⟩ rfl rfl hsize rfl (lv_room hrest) hdg hf) hS (fun q _ h => hFc q h) hFc (fun q _ h => hFc q h) (fun E9 ce q9 u t H1 locs1 ht hvm hp hB hz1 hk1 hS1 hce hcv hcl => ?_) (fun u t H1 locs1 ht hvm hf9 hB hz1 hk1 hS1 => hf9.elim)
  obtain ⟨hE, hP1, hK1, hD1⟩ := hB
  rw [ht] at hP1
  obtain ⟨hP2, hD2⟩ := va_join (wr := wr) (w1 := [(q_this, .inr (3, [.ref q_exponents, .int x_count, .ref q_byElement, .ref q_byLetter, .ref q_hullByLetter, .int x_settled, .ref q_minors, .ref q_knownPower])), (q_exponents, .inl (k_exponents, 16, .inl x_exponents))]) hP hD isC isR h2 h4 h5 h6 hk1 hFc hP1 hD1
  subst hE
  exact kx u.1 ce q9 H1 locs1 hp hP2 hD2 hS1 hce hcv hcl
abbrev rm_SR_multiply : Room := { frames := 2, cells := 0, slots := 0, locals := 42 }
abbrev qz_SR_multiply (dC : Nat → ClassId) (dI : Nat → Nat → Nat) (q_this q_exponents q_byElement q_byLetter q_hullByLetter q_minors q_knownPower q_knownPower_rest q_knownPower_shares : Nat) (k_exponents : ClassId) (x_count : Int32) (post : Int32 → Int32 → (Nat → Int32) → Int32 → Prop) (A : Nat → Prop) : Array Value → State → Outcome → State → Prop := va_Qi (fun (r : Int32) (u : Int32 × (Nat → Int32) × Int32) => post r u.1 u.2.1 u.2.2) (fun (u : Int32 × (Nat → Int32) × Int32) (t : State) => va_P (dC, dI) zz_cl [(q_this, .inr (3, [.ref q_exponents, .int x_count, .ref q_byElement, .ref q_byLetter, .ref q_hullByLetter, .int u.1, .ref q_minors, .ref q_knownPower])), (q_exponents, .inl (k_exponents, 16, .inl u.2.1)), (q_knownPower, .inr (1, [.ref q_knownPower_rest, .ref q_knownPower_shares, .int u.2.2]))] t.heap ∧ va_K (dC, dI) zz_cl [(k_exponents, .int)] t ∧ va_D A [(q_this, .inr (3, [.ref q_exponents, .int x_count, .ref q_byElement, .ref q_byLetter, .ref q_hullByLetter, .int u.1, .ref q_minors, .ref q_knownPower])), (q_exponents, .inl (k_exponents, 16, .inl u.2.1)), (q_knownPower, .inr (1, [.ref q_knownPower_rest, .ref q_knownPower_shares, .int u.2.2]))]) A
def cx_SR_multiply (p : Program) (s : State) (m : MethodId) (args : Array Value) (meth : Method) (c : Code) : Prop := p.tables.exec = Jvm.exec ∧ c.code = b_SR_multiply ∧ meth.sig.returnType = (some .boolean) ∧ c.maxLocals = 7 ∧ s.vm.findClass "StructureRows" = some m.cls ∧ (∀ w ∈ zz_GW, w.before args s = true) ∧ meth.locks = false
def wp_SR_multiply_88b (x_count : Int32) (x_settled : Int32) (x_knownPower_known : Int32) (u_3 : Int32) (u_4 : Int32) (u_5 : Int32) (post : Int32 → Int32 → (Nat → Int32) → Int32 → Prop)  (P : (Nat → Int32) → Int32 → Prop) (x_exponents : Nat → Int32) (u_6 : Int32) : Prop := (4 ≤ u_6 → (wp_SR_forgetAnswers x_count x_settled x_knownPower_known (fun (m_6 : Int32) (m_7 : Int32) => (post 1 m_6 x_exponents m_7)))) ∧ (¬ 4 ≤ u_6 → (∀ v_8 : Int32, v_8 = u_4 + u_6 → (vp_in v_8 16 ∧ (vp_in (u_5 + u_6) 16 ∧ (vp_in v_8 16 ∧ ∀ w_12 : Nat → Int32, w_12 = upd x_exponents v_8.toNatClampNeg ((x_exponents v_8.toNatClampNeg) + (u_3 * (x_exponents (u_5 + u_6).toNatClampNeg))) → (∀ v_13 : Int32, v_13 = u_6 + 1 → (P w_12 v_13)))))))
def wp_SR_multiply_88 (x_count : Int32) (x_settled : Int32) (x_knownPower_known : Int32) (u_3 : Int32) (u_4 : Int32) (u_5 : Int32) (post : Int32 → Int32 → (Nat → Int32) → Int32 → Prop)  (x_exponents : Nat → Int32) (u_6 : Int32) : Prop := ∀ P : (Nat → Int32) → Int32 → Prop, (∀ (x_exponents : Nat → Int32) (u_6 : Int32), wp_SR_multiply_88b x_count x_settled x_knownPower_known u_3 u_4 u_5 post P x_exponents u_6 → P x_exponents u_6) → P x_exponents u_6
set_option maxHeartbeats 4000000 in
set_option maxRecDepth 100000 in
theorem k_SR_multiply_88 {p : Program} {l : Launch} {e : Env} {s : State} {m : MethodId} {args : Array Value} {below : List Frame} {meth : Method} {c : Code} {dC : Nat → ClassId} {dI : Nat → Nat → Nat} {A : Nat → Prop} {q_this q_exponents q_byElement q_byLetter q_hullByLetter q_minors q_knownPower q_knownPower_rest q_knownPower_shares : Nat} {k_exponents : ClassId} {x_count : Int32} {x_settled : Int32} {x_knownPower_known : Int32} {u_3 : Int32} {u_4 : Int32} {u_5 : Int32} {post : Int32 → Int32 → (Nat → Int32) → Int32 → Prop}  (C0 : cx_SR_multiply p s m args meth c) (hA : ∀ q : Nat, s.heap.size ≤ q → A q) (hK : va_K (dC, dI) zz_cl [(k_exponents, .int)] s) {x_exponents : Nat → Int32} {u_6 : Int32} (hw : wp_SR_multiply_88 x_count x_settled x_knownPower_known u_3 u_4 u_5 post x_exponents u_6) {H : Heap} {locs : List Loc} {ls : Array Slot} (hP : va_P (dC, dI) zz_cl [(q_this, .inr (3, [.ref q_exponents, .int x_count, .ref q_byElement, .ref q_byLetter, .ref q_hullByLetter, .int x_settled, .ref q_minors, .ref q_knownPower])), (q_exponents, .inl (k_exponents, 16, .inl x_exponents)), (q_knownPower, .inr (1, [.ref q_knownPower_rest, .ref q_knownPower_shares, .int x_knownPower_known]))] H) (hD : va_D A [(q_this, .inr (3, [.ref q_exponents, .int x_count, .ref q_byElement, .ref q_byLetter, .ref q_hullByLetter, .int x_settled, .ref q_minors, .ref q_knownPower])), (q_exponents, .inl (k_exponents, 16, .inl x_exponents)), (q_knownPower, .inr (1, [.ref q_knownPower_rest, .ref q_knownPower_shares, .int x_knownPower_known]))]) (hS : va_S A s.heap H locs) (hl : lv_has ls 7 [(0, .ref q_this), (3, .int u_3), (4, .int u_4), (5, .int u_5), (6, .int u_6)]) : W p l e rm_SR_multiply s m args below meth c H locs 0 0 (MQ below (qz_SR_multiply dC dI q_this q_exponents q_byElement q_byLetter q_hullByLetter q_minors q_knownPower q_knownPower_rest q_knownPower_shares k_exponents x_count post A) args s 0 0 A) (F0 m 88 ls []) := by
  have C1 := C0
  obtain ⟨hx, hb, hr, hml, hown, hts, hlocks⟩ := C1
  refine hw (fun (x_exponents : Nat → Int32) (u_6 : Int32) => ∀ (H : Heap) (locs : List Loc) (ls : Array Slot), va_P (dC, dI) zz_cl [(q_this, .inr (3, [.ref q_exponents, .int x_count, .ref q_byElement, .ref q_byLetter, .ref q_hullByLetter, .int x_settled, .ref q_minors, .ref q_knownPower])), (q_exponents, .inl (k_exponents, 16, .inl x_exponents)), (q_knownPower, .inr (1, [.ref q_knownPower_rest, .ref q_knownPower_shares, .int x_knownPower_known]))] H → va_D A [(q_this, .inr (3, [.ref q_exponents, .int x_count, .ref q_byElement, .ref q_byLetter, .ref q_hullByLetter, .int x_settled, .ref q_minors, .ref q_knownPower])), (q_exponents, .inl (k_exponents, 16, .inl x_exponents)), (q_knownPower, .inr (1, [.ref q_knownPower_rest, .ref q_knownPower_shares, .int x_knownPower_known]))] → va_S A s.heap H locs → lv_has ls 7 [(0, .ref q_this), (3, .int u_3), (4, .int u_4), (5, .int u_5), (6, .int u_6)] → W p l e rm_SR_multiply s m args below meth c H locs 0 0 (MQ below (qz_SR_multiply dC dI q_this q_exponents q_byElement q_byLetter q_hullByLetter q_minors q_knownPower q_knownPower_rest q_knownPower_shares k_exponents x_count post A) args s 0 0 A) (F0 m 88 ls [])) ?_ H locs ls hP hD hS hl
  clear hw hP hD hS hl H locs ls
  intro x_exponents u_6 hw H locs ls hP hD hS hl
  unfold wp_SR_multiply_88b at hw
  refine lv_iload hx hb d_SR_multiply_88 (lv_at hl 4 rfl) ?_
  refine lv_iconst (v := 4) hx hb d_SR_multiply_90 (by decide) ?_
  refine lv_icmp_ge (tgt := 125) hx hb d_SR_multiply_91 (by decide) (fun h_5 => ?_) (fun h_5 => ?_)
  · replace hw := hw.1 h_5
    refine lv_aload_n hx hb d_SR_multiply_125 rfl (lv_at hl 0 rfl) ?_
    refine go_SR_forgetAnswers (wr := [(q_exponents, .inl (k_exponents, 16, .inl x_exponents))]) ⟨hx, hb, hml, hown, hts⟩ (zz_cwV 0 hts tw_219 tw_216 tw_218 tw_9 tw_31 ⟨by decide, by decide, by decide +kernel⟩ ⟨Nat.le_of_ble_eq_true rfl, Nat.le_of_ble_eq_true rfl⟩) hK hP hD hS hA [0, 2] [1] [] rfl rfl (by decide) rfl (by decide) (by decide) rfl hw hl.1 (Nat.le_of_ble_eq_true rfl) d_SR_multiply_126 ⟨Nat.le_of_ble_eq_true rfl, Nat.le_of_ble_eq_true rfl⟩ (fun m_6 m_7 H locs hw hP hD hS => ?_)
    replace hP : va_P (dC, dI) zz_cl [(q_exponents, .inl (k_exponents, 16, .inl x_exponents)), (q_this, .inr (3, [.ref q_exponents, .int x_count, .ref q_byElement, .ref q_byLetter, .ref q_hullByLetter, .int m_6, .ref q_minors, .ref q_knownPower])), (q_knownPower, .inr (1, [.ref q_knownPower_rest, .ref q_knownPower_shares, .int m_7]))] H := hP
    replace hD : va_D A [(q_exponents, .inl (k_exponents, 16, .inl x_exponents)), (q_this, .inr (3, [.ref q_exponents, .int x_count, .ref q_byElement, .ref q_byLetter, .ref q_hullByLetter, .int m_6, .ref q_minors, .ref q_knownPower])), (q_knownPower, .inr (1, [.ref q_knownPower_rest, .ref q_knownPower_shares, .int m_7]))] := hD
    refine lv_iconst (v := 1) hx hb d_SR_multiply_129 (by decide) ?_
    exact W.zret (v := 1) (ty := .boolean) hx hb hr rfl (fun t ht hW => ⟨⟨1, (m_6, x_exponents, m_7), rfl, hw, by rw [ht]; exact hP.sub [1, 0, 2] rfl, va_K.moved hW.alike hK, hD.sub [1, 0, 2] (by decide) rfl⟩, hS.F ht⟩) hS.2.2 d_SR_multiply_130
  · replace hw := hw.2 h_5
    refine lv_aload_n hx hb d_SR_multiply_94 rfl (lv_at hl 0 rfl) ?_
    refine va_get (D := (dC, dI)) (ci := 3) (v := .ref q_exponents) (C := "StructureRows") (T := T_SR) (N := 8) hx hb hts in_SR hown hK hP 0 rfl rfl 0 (by decide) (hts _ tw_105) (fun _ h9 => h9) rfl d_SR_multiply_95 ?_
    refine lv_iload hx hb d_SR_multiply_98 (lv_at hl 2 rfl) ?_
    refine lv_iload hx hb d_SR_multiply_100 (lv_at hl 4 rfl) ?_
    refine lv_iadd hx hb d_SR_multiply_102 ?_
    refine lv_topi (fun v_8 ev_8 => ?_)
    replace hw := hw v_8 ev_8
    refine lv_dup2_11 hx hb d_SR_multiply_103 rfl rfl ?_
    obtain ⟨h_9, hw⟩ := hw
    refine va_iald hx hb hK hP 1 0 rfl rfl h_9 d_SR_multiply_104 ?_
    refine lv_iload_n hx hb d_SR_multiply_105 rfl (lv_at hl 1 rfl) ?_
    refine lv_aload_n hx hb d_SR_multiply_106 rfl (lv_at hl 0 rfl) ?_
    refine va_get (D := (dC, dI)) (ci := 3) (v := .ref q_exponents) (C := "StructureRows") (T := T_SR) (N := 8) hx hb hts in_SR hown hK hP 0 rfl rfl 0 (by decide) (hts _ tw_105) (fun _ h9 => h9) rfl d_SR_multiply_107 ?_
    refine lv_iload hx hb d_SR_multiply_110 (lv_at hl 3 rfl) ?_
    refine lv_iload hx hb d_SR_multiply_112 (lv_at hl 4 rfl) ?_
    refine lv_iadd hx hb d_SR_multiply_114 ?_
    obtain ⟨h_10, hw⟩ := hw
    refine va_iald hx hb hK hP 1 0 rfl rfl h_10 d_SR_multiply_115 ?_
    refine lv_imul hx hb d_SR_multiply_116 ?_
    refine lv_iadd hx hb d_SR_multiply_117 ?_
    obtain ⟨h_11, hw⟩ := hw
    obtain ⟨w_12, ew_12⟩ : ∃ y : Nat → Int32, y = upd x_exponents v_8.toNatClampNeg ((x_exponents v_8.toNatClampNeg) + (u_3 * (x_exponents (u_5 + u_6).toNatClampNeg))) := ⟨_, rfl⟩
    replace hw := hw w_12 ew_12
    refine va_iast hx hb hK hP hD hS 1 0 rfl rfl h_11 d_SR_multiply_118 (fun H locs hP hD hS => ?_)
    rw [← ew_12] at hP hD
    replace hP : va_P (dC, dI) zz_cl [(q_this, .inr (3, [.ref q_exponents, .int x_count, .ref q_byElement, .ref q_byLetter, .ref q_hullByLetter, .int x_settled, .ref q_minors, .ref q_knownPower])), (q_exponents, .inl (k_exponents, 16, .inl w_12)), (q_knownPower, .inr (1, [.ref q_knownPower_rest, .ref q_knownPower_shares, .int x_knownPower_known]))] H := hP
    replace hD : va_D A [(q_this, .inr (3, [.ref q_exponents, .int x_count, .ref q_byElement, .ref q_byLetter, .ref q_hullByLetter, .int x_settled, .ref q_minors, .ref q_knownPower])), (q_exponents, .inl (k_exponents, 16, .inl w_12)), (q_knownPower, .inr (1, [.ref q_knownPower_rest, .ref q_knownPower_shares, .int x_knownPower_known]))] := hD
    obtain ⟨v_13, ev_13⟩ : ∃ y : Int32, y = u_6 + 1 := ⟨_, rfl⟩
    replace hw := hw v_13 ev_13
    refine lv_iinc (v := v_13) (lv' := [(6, .int v_13), (0, .ref q_this), (3, .int u_3), (4, .int u_4), (5, .int u_5)]) hx hb d_SR_multiply_119 hl (k := 4) rfl (by rw [ev_13]; rfl) (by decide) rfl (fun ls hl => ?_)
    refine lv_goto (tgt := 88) hx hb d_SR_multiply_122 (by decide) ?_
    exact hw H locs ls hP hD hS (lv_sub hl [1, 2, 3, 4, 0] rfl)
def wp_SR_multiply_42b (x_count : Int32) (x_settled : Int32) (x_exponents : Nat → Int32) (x_knownPower_known : Int32) (u_3 : Int32) (u_4 : Int32) (u_5 : Int32) (post : Int32 → Int32 → (Nat → Int32) → Int32 → Prop)  (P : Int32 → Prop) (u_6 : Int32) : Prop := (4 ≤ u_6 → (wp_SR_multiply_88 x_count x_settled x_knownPower_known u_3 u_4 u_5 post x_exponents 0)) ∧ (¬ 4 ≤ u_6 → (vp_in (u_4 + u_6) 16 ∧ (vp_in (u_5 + u_6) 16 ∧ (wp_SR_isExponent ((x_exponents (u_4 + u_6).toNatClampNeg) + (u_3 * (x_exponents (u_5 + u_6).toNatClampNeg))) (fun (r_16 : Int32) => ((¬ r_16 = 0 → (∀ v_18 : Int32, v_18 = u_6 + 1 → (P v_18))) ∧ (r_16 = 0 → (post 0 x_settled x_exponents x_knownPower_known))))))))
def wp_SR_multiply_42 (x_count : Int32) (x_settled : Int32) (x_exponents : Nat → Int32) (x_knownPower_known : Int32) (u_3 : Int32) (u_4 : Int32) (u_5 : Int32) (post : Int32 → Int32 → (Nat → Int32) → Int32 → Prop)  (u_6 : Int32) : Prop := ∀ P : Int32 → Prop, (∀ (u_6 : Int32), wp_SR_multiply_42b x_count x_settled x_exponents x_knownPower_known u_3 u_4 u_5 post P u_6 → P u_6) → P u_6
set_option maxHeartbeats 4000000 in
set_option maxRecDepth 100000 in
theorem k_SR_multiply_42 {p : Program} {l : Launch} {e : Env} {s : State} {m : MethodId} {args : Array Value} {below : List Frame} {meth : Method} {c : Code} {dC : Nat → ClassId} {dI : Nat → Nat → Nat} {A : Nat → Prop} {q_this q_exponents q_byElement q_byLetter q_hullByLetter q_minors q_knownPower q_knownPower_rest q_knownPower_shares : Nat} {k_exponents : ClassId} {x_count : Int32} {x_settled : Int32} {x_exponents : Nat → Int32} {x_knownPower_known : Int32} {u_3 : Int32} {u_4 : Int32} {u_5 : Int32} {post : Int32 → Int32 → (Nat → Int32) → Int32 → Prop}  (C0 : cx_SR_multiply p s m args meth c) (hA : ∀ q : Nat, s.heap.size ≤ q → A q) (hK : va_K (dC, dI) zz_cl [(k_exponents, .int)] s) {u_6 : Int32} (hw : wp_SR_multiply_42 x_count x_settled x_exponents x_knownPower_known u_3 u_4 u_5 post u_6) {H : Heap} {locs : List Loc} {ls : Array Slot} (hP : va_P (dC, dI) zz_cl [(q_this, .inr (3, [.ref q_exponents, .int x_count, .ref q_byElement, .ref q_byLetter, .ref q_hullByLetter, .int x_settled, .ref q_minors, .ref q_knownPower])), (q_exponents, .inl (k_exponents, 16, .inl x_exponents)), (q_knownPower, .inr (1, [.ref q_knownPower_rest, .ref q_knownPower_shares, .int x_knownPower_known]))] H) (hD : va_D A [(q_this, .inr (3, [.ref q_exponents, .int x_count, .ref q_byElement, .ref q_byLetter, .ref q_hullByLetter, .int x_settled, .ref q_minors, .ref q_knownPower])), (q_exponents, .inl (k_exponents, 16, .inl x_exponents)), (q_knownPower, .inr (1, [.ref q_knownPower_rest, .ref q_knownPower_shares, .int x_knownPower_known]))]) (hS : va_S A s.heap H locs) (hl : lv_has ls 7 [(0, .ref q_this), (3, .int u_3), (4, .int u_4), (5, .int u_5), (6, .int u_6)]) : W p l e rm_SR_multiply s m args below meth c H locs 0 0 (MQ below (qz_SR_multiply dC dI q_this q_exponents q_byElement q_byLetter q_hullByLetter q_minors q_knownPower q_knownPower_rest q_knownPower_shares k_exponents x_count post A) args s 0 0 A) (F0 m 42 ls []) := by
  have C1 := C0
  obtain ⟨hx, hb, hr, hml, hown, hts, hlocks⟩ := C1
  refine hw (fun (u_6 : Int32) => ∀ (H : Heap) (locs : List Loc) (ls : Array Slot), va_P (dC, dI) zz_cl [(q_this, .inr (3, [.ref q_exponents, .int x_count, .ref q_byElement, .ref q_byLetter, .ref q_hullByLetter, .int x_settled, .ref q_minors, .ref q_knownPower])), (q_exponents, .inl (k_exponents, 16, .inl x_exponents)), (q_knownPower, .inr (1, [.ref q_knownPower_rest, .ref q_knownPower_shares, .int x_knownPower_known]))] H → va_D A [(q_this, .inr (3, [.ref q_exponents, .int x_count, .ref q_byElement, .ref q_byLetter, .ref q_hullByLetter, .int x_settled, .ref q_minors, .ref q_knownPower])), (q_exponents, .inl (k_exponents, 16, .inl x_exponents)), (q_knownPower, .inr (1, [.ref q_knownPower_rest, .ref q_knownPower_shares, .int x_knownPower_known]))] → va_S A s.heap H locs → lv_has ls 7 [(0, .ref q_this), (3, .int u_3), (4, .int u_4), (5, .int u_5), (6, .int u_6)] → W p l e rm_SR_multiply s m args below meth c H locs 0 0 (MQ below (qz_SR_multiply dC dI q_this q_exponents q_byElement q_byLetter q_hullByLetter q_minors q_knownPower q_knownPower_rest q_knownPower_shares k_exponents x_count post A) args s 0 0 A) (F0 m 42 ls [])) ?_ H locs ls hP hD hS hl
  clear hw hP hD hS hl H locs ls
  intro u_6 hw H locs ls hP hD hS hl
  unfold wp_SR_multiply_42b at hw
  refine lv_iload hx hb d_SR_multiply_42 (lv_at hl 4 rfl) ?_
  refine lv_iconst (v := 4) hx hb d_SR_multiply_44 (by decide) ?_
  refine lv_icmp_ge (tgt := 85) hx hb d_SR_multiply_45 (by decide) (fun h_4 => ?_) (fun h_4 => ?_)
  · replace hw := hw.1 h_4
    refine lv_iconst (v := 0) hx hb d_SR_multiply_85 (by decide) ?_
    refine lv_istore (lv' := [(6, .int 0), (0, .ref q_this), (3, .int u_3), (4, .int u_4), (5, .int u_5)]) hx hb d_SR_multiply_86 hl (by decide) rfl (fun ls hl => ?_)
    exact k_SR_multiply_88 C0 hA hK hw hP hD hS (lv_sub hl [1, 2, 3, 4, 0] rfl)
  · replace hw := hw.2 h_4
    refine lv_aload_n hx hb d_SR_multiply_48 rfl (lv_at hl 0 rfl) ?_
    refine va_get (D := (dC, dI)) (ci := 3) (v := .ref q_exponents) (C := "StructureRows") (T := T_SR) (N := 8) hx hb hts in_SR hown hK hP 0 rfl rfl 0 (by decide) (hts _ tw_105) (fun _ h9 => h9) rfl d_SR_multiply_49 ?_
    refine lv_iload hx hb d_SR_multiply_52 (lv_at hl 2 rfl) ?_
    refine lv_iload hx hb d_SR_multiply_54 (lv_at hl 4 rfl) ?_
    refine lv_iadd hx hb d_SR_multiply_56 ?_
    obtain ⟨h_14, hw⟩ := hw
    refine va_iald hx hb hK hP 1 0 rfl rfl h_14 d_SR_multiply_57 ?_
    refine lv_iload_n hx hb d_SR_multiply_58 rfl (lv_at hl 1 rfl) ?_
    refine lv_aload_n hx hb d_SR_multiply_59 rfl (lv_at hl 0 rfl) ?_
    refine va_get (D := (dC, dI)) (ci := 3) (v := .ref q_exponents) (C := "StructureRows") (T := T_SR) (N := 8) hx hb hts in_SR hown hK hP 0 rfl rfl 0 (by decide) (hts _ tw_105) (fun _ h9 => h9) rfl d_SR_multiply_60 ?_
    refine lv_iload hx hb d_SR_multiply_63 (lv_at hl 3 rfl) ?_
    refine lv_iload hx hb d_SR_multiply_65 (lv_at hl 4 rfl) ?_
    refine lv_iadd hx hb d_SR_multiply_67 ?_
    obtain ⟨h_15, hw⟩ := hw
    refine va_iald hx hb hK hP 1 0 rfl rfl h_15 d_SR_multiply_68 ?_
    refine lv_imul hx hb d_SR_multiply_69 ?_
    refine lv_iadd hx hb d_SR_multiply_70 ?_
    refine go_SR_isExponent (wr := [(q_this, .inr (3, [.ref q_exponents, .int x_count, .ref q_byElement, .ref q_byLetter, .ref q_hullByLetter, .int x_settled, .ref q_minors, .ref q_knownPower])), (q_exponents, .inl (k_exponents, 16, .inl x_exponents)), (q_knownPower, .inr (1, [.ref q_knownPower_rest, .ref q_knownPower_shares, .int x_knownPower_known]))]) ⟨hx, hb, hml, hown, hts⟩ (zz_cwS 1 hts tw_340 tw_338 tw_339 tw_31 ⟨by decide, by decide, by decide +kernel⟩ ⟨Nat.le_of_ble_eq_true rfl, Nat.le_of_ble_eq_true rfl⟩) hK hP hD hS hA [] [0, 1, 2] [] rfl rfl (by decide) rfl (by decide) (by decide) rfl hw hl.1 (Nat.le_of_ble_eq_true rfl) d_SR_multiply_71 ⟨Nat.le_of_ble_eq_true rfl, Nat.le_of_ble_eq_true rfl⟩ (fun r_16 H locs hw hP hD hS => ?_)
    replace hP : va_P (dC, dI) zz_cl [(q_this, .inr (3, [.ref q_exponents, .int x_count, .ref q_byElement, .ref q_byLetter, .ref q_hullByLetter, .int x_settled, .ref q_minors, .ref q_knownPower])), (q_exponents, .inl (k_exponents, 16, .inl x_exponents)), (q_knownPower, .inr (1, [.ref q_knownPower_rest, .ref q_knownPower_shares, .int x_knownPower_known]))] H := hP
    replace hD : va_D A [(q_this, .inr (3, [.ref q_exponents, .int x_count, .ref q_byElement, .ref q_byLetter, .ref q_hullByLetter, .int x_settled, .ref q_minors, .ref q_knownPower])), (q_exponents, .inl (k_exponents, 16, .inl x_exponents)), (q_knownPower, .inr (1, [.ref q_knownPower_rest, .ref q_knownPower_shares, .int x_knownPower_known]))] := hD
    refine lv_if_ne (tgt := 79) hx hb d_SR_multiply_74 (by decide) (fun h_17 => ?_) (fun h_17 => ?_)
    · replace hw := hw.1 h_17
      obtain ⟨v_18, ev_18⟩ : ∃ y : Int32, y = u_6 + 1 := ⟨_, rfl⟩
      replace hw := hw v_18 ev_18
      refine lv_iinc (v := v_18) (lv' := [(6, .int v_18), (0, .ref q_this), (3, .int u_3), (4, .int u_4), (5, .int u_5)]) hx hb d_SR_multiply_79 hl (k := 4) rfl (by rw [ev_18]; rfl) (by decide) rfl (fun ls hl => ?_)
      refine lv_goto (tgt := 42) hx hb d_SR_multiply_82 (by decide) ?_
      exact hw H locs ls hP hD hS (lv_sub hl [1, 2, 3, 4, 0] rfl)
    · replace hw := hw.2 h_17
      refine lv_iconst (v := 0) hx hb d_SR_multiply_77 (by decide) ?_
      exact W.zret (v := 0) (ty := .boolean) hx hb hr rfl (fun t ht hW => ⟨⟨0, (x_settled, x_exponents, x_knownPower_known), rfl, hw, by rw [ht]; exact hP, va_K.moved hW.alike hK, hD⟩, hS.F ht⟩) hS.2.2 d_SR_multiply_78
def wp_SR_multiply (x_count : Int32) (x_settled : Int32) (x_exponents : Nat → Int32) (x_knownPower_known : Int32) (a_0 : Int32) (a_1 : Int32) (a_2 : Int32) (post : Int32 → Int32 → (Nat → Int32) → Int32 → Prop) : Prop := wp_SR_requireElement x_count x_settled a_0  (wp_SR_requireElement x_count x_settled a_1  ((¬ a_0 = a_1 → (wp_SR_requireExponent a_2  (∀ v_2 : Int32, v_2 = a_0 * 4 → (∀ v_3 : Int32, v_3 = a_1 * 4 → (wp_SR_multiply_42 x_count x_settled x_exponents x_knownPower_known a_2 v_2 v_3 post 0))))) ∧ (a_0 = a_1 → (False))))
set_option maxHeartbeats 4000000 in
set_option maxRecDepth 100000 in
theorem c_SR_multiply (l : Launch) (dC : Nat → ClassId) (dI : Nat → Nat → Nat) (q_this q_exponents q_byElement q_byLetter q_hullByLetter q_minors q_knownPower q_knownPower_rest q_knownPower_shares : Nat) (k_exponents : ClassId) (sz : Nat) (x_count : Int32) (x_settled : Int32) (x_exponents : Nat → Int32) (x_knownPower_known : Int32) (a_0 : Int32) (a_1 : Int32) (a_2 : Int32) (post : Int32 → Int32 → (Nat → Int32) → Int32 → Prop) (hw : wp_SR_multiply x_count x_settled x_exponents x_knownPower_known a_0 a_1 a_2 post) : Met l y_SR_multiply (zz_w y_SR_multiply b_SR_multiply 7 (some .boolean)) rm_SR_multiply (va_Pc [.ref q_this, .int a_0, .int a_1, .int a_2] (fun U => U.heap.size = sz ∧ va_P (dC, dI) zz_cl [(q_this, .inr (3, [.ref q_exponents, .int x_count, .ref q_byElement, .ref q_byLetter, .ref q_hullByLetter, .int x_settled, .ref q_minors, .ref q_knownPower])), (q_exponents, .inl (k_exponents, 16, .inl x_exponents)), (q_knownPower, .inr (1, [.ref q_knownPower_rest, .ref q_knownPower_shares, .int x_knownPower_known]))] U.heap ∧ va_K (dC, dI) zz_cl [(k_exponents, .int)] U ∧ va_D (fun _ => True) [(q_this, .inr (3, [.ref q_exponents, .int x_count, .ref q_byElement, .ref q_byLetter, .ref q_hullByLetter, .int x_settled, .ref q_minors, .ref q_knownPower])), (q_exponents, .inl (k_exponents, 16, .inl x_exponents)), (q_knownPower, .inr (1, [.ref q_knownPower_rest, .ref q_knownPower_shares, .int x_knownPower_known]))])) (qz_SR_multiply dC dI q_this q_exponents q_byElement q_byLetter q_hullByLetter q_minors q_knownPower q_knownPower_rest q_knownPower_shares k_exponents x_count post (va_A [(q_this, .inr (3, [.ref q_exponents, .int x_count, .ref q_byElement, .ref q_byLetter, .ref q_hullByLetter, .int x_settled, .ref q_minors, .ref q_knownPower])), (q_exponents, .inl (k_exponents, 16, .inl x_exponents)), (q_knownPower, .inr (1, [.ref q_knownPower_rest, .ref q_knownPower_shares, .int x_knownPower_known]))] sz)) 0 0 (va_A [(q_this, .inr (3, [.ref q_exponents, .int x_count, .ref q_byElement, .ref q_byLetter, .ref q_hullByLetter, .int x_settled, .ref q_minors, .ref q_knownPower])), (q_exponents, .inl (k_exponents, 16, .inl x_exponents)), (q_knownPower, .inr (1, [.ref q_knownPower_rest, .ref q_knownPower_shares, .int x_knownPower_known]))] sz) := by
  refine Met.ofW (cc := b_SR_multiply) (maxL := 7) (ret := (some .boolean)) (by decide) rfl ?_
  intro p e s m args below meth c s₁ B hml hv
  obtain ⟨rfl, hsz, hP, hK, hD0⟩ := hv
  have hx := B.exec
  have hb := B.bytes
  have hr := B.returns
  have hts0 := atoms_spec (ws := (zz_w y_SR_multiply b_SR_multiply 7 (some .boolean))) B.pre
  have hts : ∀ w ∈ zz_GW, w.before _ s = true := fun w h => hts0 w (List.mem_cons_of_mem _ h)
  clear hts0
  have hown : s.vm.findClass "StructureRows" = some m.cls := findClass_of_methodNamed B.named
  have hlocks := B.notSynchronized
  have C0 : cx_SR_multiply p s m _ meth c := ⟨hx, hb, hr, hml, hown, hts, hlocks⟩
  subst hsz
  have hD := hD0.self (sz := s.heap.size)
  generalize hAe : va_A [(q_this, .inr (3, [.ref q_exponents, .int x_count, .ref q_byElement, .ref q_byLetter, .ref q_hullByLetter, .int x_settled, .ref q_minors, .ref q_knownPower])), (q_exponents, .inl (k_exponents, 16, .inl x_exponents)), (q_knownPower, .inr (1, [.ref q_knownPower_rest, .ref q_knownPower_shares, .int x_knownPower_known]))] s.heap.size = A at hD ⊢
  have hA : ∀ q : Nat, s.heap.size ≤ q → A q := fun q h => by rw [← hAe]; exact Or.inr h
  clear hAe hD0
  have hS : va_S A s.heap s.heap [] := va_S.rf
  have hl := lv_entry ([.ref q_this, .int a_0, .int a_1, .int a_2]) (n := 7) (Nat.le_of_ble_eq_true rfl)
  rw [lg_entry_eq]
  generalize (lg_sl ([.ref q_this, .int a_0, .int a_1, .int a_2]) ++ List.replicate (7 - (lg_sl ([.ref q_this, .int a_0, .int a_1, .int a_2])).length) Slot.unset).toArray = ls at hl ⊢
  replace hl : lv_has ls 7 [(0, .ref q_this), (1, .int a_0), (2, .int a_1), (3, .int a_2)] := hl
  unfold wp_SR_multiply at hw
  change W p l e rm_SR_multiply s m _ below meth c s.heap [] 0 0 _ _
  refine lv_aload_n hx hb d_SR_multiply_0 rfl (lv_at hl 0 rfl) ?_
  refine lv_iload_n hx hb d_SR_multiply_1 rfl (lv_at hl 1 rfl) ?_
  refine go_SR_requireElement (wr := [(q_exponents, .inl (k_exponents, 16, .inl x_exponents)), (q_knownPower, .inr (1, [.ref q_knownPower_rest, .ref q_knownPower_shares, .int x_knownPower_known]))]) ⟨hx, hb, hml, hown, hts⟩ (zz_cwV 1 hts tw_312 tw_309 tw_311 tw_11 tw_31 ⟨by decide, by decide, by decide +kernel⟩ ⟨Nat.le_of_ble_eq_true rfl, Nat.le_of_ble_eq_true rfl⟩) hK hP hD hS hA [0] [1, 2] [] rfl rfl (by decide) rfl (by decide) (by decide) rfl hw hl.1 (Nat.le_of_ble_eq_true rfl) d_SR_multiply_2 ⟨Nat.le_of_ble_eq_true rfl, Nat.le_of_ble_eq_true rfl⟩ (fun H locs hw hP hD hS => ?_)
  replace hP : va_P (dC, dI) zz_cl [(q_exponents, .inl (k_exponents, 16, .inl x_exponents)), (q_knownPower, .inr (1, [.ref q_knownPower_rest, .ref q_knownPower_shares, .int x_knownPower_known])), (q_this, .inr (3, [.ref q_exponents, .int x_count, .ref q_byElement, .ref q_byLetter, .ref q_hullByLetter, .int x_settled, .ref q_minors, .ref q_knownPower]))] H := hP
  replace hD : va_D A [(q_exponents, .inl (k_exponents, 16, .inl x_exponents)), (q_knownPower, .inr (1, [.ref q_knownPower_rest, .ref q_knownPower_shares, .int x_knownPower_known])), (q_this, .inr (3, [.ref q_exponents, .int x_count, .ref q_byElement, .ref q_byLetter, .ref q_hullByLetter, .int x_settled, .ref q_minors, .ref q_knownPower]))] := hD
  refine lv_aload_n hx hb d_SR_multiply_5 rfl (lv_at hl 0 rfl) ?_
  refine lv_iload_n hx hb d_SR_multiply_6 rfl (lv_at hl 2 rfl) ?_
  refine go_SR_requireElement (wr := [(q_exponents, .inl (k_exponents, 16, .inl x_exponents)), (q_knownPower, .inr (1, [.ref q_knownPower_rest, .ref q_knownPower_shares, .int x_knownPower_known]))]) ⟨hx, hb, hml, hown, hts⟩ (zz_cwV 1 hts tw_312 tw_309 tw_311 tw_11 tw_31 ⟨by decide, by decide, by decide +kernel⟩ ⟨Nat.le_of_ble_eq_true rfl, Nat.le_of_ble_eq_true rfl⟩) hK hP hD hS hA [2] [0, 1] [] rfl rfl (by decide) rfl (by decide) (by decide) rfl hw hl.1 (Nat.le_of_ble_eq_true rfl) d_SR_multiply_7 ⟨Nat.le_of_ble_eq_true rfl, Nat.le_of_ble_eq_true rfl⟩ (fun H locs hw hP hD hS => ?_)
  replace hP : va_P (dC, dI) zz_cl [(q_exponents, .inl (k_exponents, 16, .inl x_exponents)), (q_knownPower, .inr (1, [.ref q_knownPower_rest, .ref q_knownPower_shares, .int x_knownPower_known])), (q_this, .inr (3, [.ref q_exponents, .int x_count, .ref q_byElement, .ref q_byLetter, .ref q_hullByLetter, .int x_settled, .ref q_minors, .ref q_knownPower]))] H := hP
  replace hD : va_D A [(q_exponents, .inl (k_exponents, 16, .inl x_exponents)), (q_knownPower, .inr (1, [.ref q_knownPower_rest, .ref q_knownPower_shares, .int x_knownPower_known])), (q_this, .inr (3, [.ref q_exponents, .int x_count, .ref q_byElement, .ref q_byLetter, .ref q_hullByLetter, .int x_settled, .ref q_minors, .ref q_knownPower]))] := hD
  refine lv_iload_n hx hb d_SR_multiply_10 rfl (lv_at hl 1 rfl) ?_
  refine lv_iload_n hx hb d_SR_multiply_11 rfl (lv_at hl 2 rfl) ?_
  refine lv_icmp_ne (tgt := 25) hx hb d_SR_multiply_12 (by decide) (fun h_1 => ?_) (fun h_1 => ?_)
  · replace hw := hw.1 h_1
    refine lv_iload_n hx hb d_SR_multiply_25 rfl (lv_at hl 3 rfl) ?_
    refine go_SR_requireExponent (wr := [(q_exponents, .inl (k_exponents, 16, .inl x_exponents)), (q_knownPower, .inr (1, [.ref q_knownPower_rest, .ref q_knownPower_shares, .int x_knownPower_known])), (q_this, .inr (3, [.ref q_exponents, .int x_count, .ref q_byElement, .ref q_byLetter, .ref q_hullByLetter, .int x_settled, .ref q_minors, .ref q_knownPower]))]) ⟨hx, hb, hml, hown, hts⟩ (zz_cwS 1 hts tw_337 tw_335 tw_336 tw_31 ⟨by decide, by decide, by decide +kernel⟩ ⟨Nat.le_of_ble_eq_true rfl, Nat.le_of_ble_eq_true rfl⟩) hK hP hD hS hA [] [0, 1, 2] [] rfl rfl (by decide) rfl (by decide) (by decide) rfl hw hl.1 (Nat.le_of_ble_eq_true rfl) d_SR_multiply_26 ⟨Nat.le_of_ble_eq_true rfl, Nat.le_of_ble_eq_true rfl⟩ (fun H locs hw hP hD hS => ?_)
    replace hP : va_P (dC, dI) zz_cl [(q_exponents, .inl (k_exponents, 16, .inl x_exponents)), (q_knownPower, .inr (1, [.ref q_knownPower_rest, .ref q_knownPower_shares, .int x_knownPower_known])), (q_this, .inr (3, [.ref q_exponents, .int x_count, .ref q_byElement, .ref q_byLetter, .ref q_hullByLetter, .int x_settled, .ref q_minors, .ref q_knownPower]))] H := hP
    replace hD : va_D A [(q_exponents, .inl (k_exponents, 16, .inl x_exponents)), (q_knownPower, .inr (1, [.ref q_knownPower_rest, .ref q_knownPower_shares, .int x_knownPower_known])), (q_this, .inr (3, [.ref q_exponents, .int x_count, .ref q_byElement, .ref q_byLetter, .ref q_hullByLetter, .int x_settled, .ref q_minors, .ref q_knownPower]))] := hD
    refine lv_iload_n hx hb d_SR_multiply_29 rfl (lv_at hl 1 rfl) ?_
    refine lv_iconst (v := 4) hx hb d_SR_multiply_30 (by decide) ?_
    refine lv_imul hx hb d_SR_multiply_31 ?_
    refine lv_topi (fun v_2 ev_2 => ?_)
    replace hw := hw v_2 ev_2
    refine lv_istore (lv' := [(4, .int v_2), (0, .ref q_this), (1, .int a_0), (2, .int a_1), (3, .int a_2)]) hx hb d_SR_multiply_32 hl (by decide) rfl (fun ls hl => ?_)
    refine lv_iload_n hx hb d_SR_multiply_34 rfl (lv_at hl 3 rfl) ?_
    refine lv_iconst (v := 4) hx hb d_SR_multiply_35 (by decide) ?_
    refine lv_imul hx hb d_SR_multiply_36 ?_
    refine lv_topi (fun v_3 ev_3 => ?_)
    replace hw := hw v_3 ev_3
    refine lv_istore (lv' := [(5, .int v_3), (4, .int v_2), (0, .ref q_this), (1, .int a_0), (2, .int a_1), (3, .int a_2)]) hx hb d_SR_multiply_37 hl (by decide) rfl (fun ls hl => ?_)
    refine lv_iconst (v := 0) hx hb d_SR_multiply_39 (by decide) ?_
    refine lv_istore (lv' := [(6, .int 0), (5, .int v_3), (4, .int v_2), (0, .ref q_this), (1, .int a_0), (2, .int a_1), (3, .int a_2)]) hx hb d_SR_multiply_40 hl (by decide) rfl (fun ls hl => ?_)
    exact k_SR_multiply_42 C0 hA hK hw (hP.sub [2, 0, 1] rfl) (hD.sub [2, 0, 1] (by decide) rfl) hS (lv_sub hl [3, 6, 2, 1, 0] rfl)
  · replace hw := hw.2 h_1
    exact hw.elim
set_option maxHeartbeats 4000000 in
set_option maxRecDepth 100000 in
theorem go_SR_multiply {p : Program} {l : Launch} {e : Env} {R : Room} {s : State} {m : MethodId} {args : Array Value} {below : List Frame} {meth : Method} {c : Code} {H : Heap} {locs : List Loc} {cells slots : Nat} {Q : State → Prop} {cc : ByteArray} {nL : Nat} {Ts : List Cond} {own : String} {index : Nat} {A0 : Nat → Prop} {H0 : Heap} {dC : Nat → ClassId} {dI : Nat → Nat → Nat} {ws wr : va_W} {tys : List (ClassId × FieldType)} {q_this q_exponents q_byElement q_byLetter q_hullByLetter q_minors q_knownPower q_knownPower_rest q_knownPower_shares : Nat} {k_exponents : ClassId} {x_count : Int32} {x_settled : Int32} {x_exponents : Nat → Int32} {x_knownPower_known : Int32} {a_0 : Int32} {a_1 : Int32} {a_2 : Int32} {post : Int32 → Int32 → (Nat → Int32) → Int32 → Prop} (S : CallFix p m c cc nL s args Ts own) (cw : CallW R s args own "StructureRows" index y_SR_multiply b_SR_multiply 7 (some .boolean) (zz_w y_SR_multiply b_SR_multiply 7 (some .boolean)) rm_SR_multiply 0 0 3) (hK : va_K (dC, dI) zz_cl tys s) (hP : va_P (dC, dI) zz_cl ws H) (hD : va_D A0 ws) (hS : va_S A0 H0 H locs) (hA : ∀ q, H0.size ≤ q → A0 q) (isC isR kt : List Nat) (h1 : isC.filterMap (fun i => ws[i]?) = [(q_this, .inr (3, [.ref q_exponents, .int x_count, .ref q_byElement, .ref q_byLetter, .ref q_hullByLetter, .int x_settled, .ref q_minors, .ref q_knownPower])), (q_exponents, .inl (k_exponents, 16, .inl x_exponents)), (q_knownPower, .inr (1, [.ref q_knownPower_rest, .ref q_knownPower_shares, .int x_knownPower_known]))]) (h2 : isC.map (fun i => ws[i]?) = ([(q_this, .inr (3, [.ref q_exponents, .int x_count, .ref q_byElement, .ref q_byLetter, .ref q_hullByLetter, .int x_settled, .ref q_minors, .ref q_knownPower])), (q_exponents, .inl (k_exponents, 16, .inl x_exponents)), (q_knownPower, .inr (1, [.ref q_knownPower_rest, .ref q_knownPower_shares, .int x_knownPower_known]))] : va_W).map some) (h3 : va_nd isC = true) (h4 : isR.map (fun i => ws[i]?) = wr.map some) (h5 : va_nd isR = true) (h6 : ∀ i ∈ isR, i ∉ isC) (h7 : kt.filterMap (fun i => tys[i]?) = [(k_exponents, .int)]) (hw : wp_SR_multiply x_count x_settled x_exponents x_knownPower_known a_0 a_1 a_2 post) {pc : Nat} {ls : Array Slot} {rest : List Value} (hsize : ls.size = nL) (hrest : (rest.map fun v => v.category).sum ≤ 8) (hdg : decode cc pc = .ok (.invokevirtual index, 3)) (hf : cells + 0 ≤ R.cells ∧ slots + 0 ≤ R.slots) (kk : ∀ (r : Int32) (m0 : Int32) (m1 : Nat → Int32) (m2 : Int32) (H1 : Heap) (locs1 : List Loc), post r m0 m1 m2 → va_P (dC, dI) zz_cl (wr ++ [(q_this, .inr (3, [.ref q_exponents, .int x_count, .ref q_byElement, .ref q_byLetter, .ref q_hullByLetter, .int m0, .ref q_minors, .ref q_knownPower])), (q_exponents, .inl (k_exponents, 16, .inl m1)), (q_knownPower, .inr (1, [.ref q_knownPower_rest, .ref q_knownPower_shares, .int m2]))]) H1 → va_D A0 (wr ++ [(q_this, .inr (3, [.ref q_exponents, .int x_count, .ref q_byElement, .ref q_byLetter, .ref q_hullByLetter, .int m0, .ref q_minors, .ref q_knownPower])), (q_exponents, .inl (k_exponents, 16, .inl m1)), (q_knownPower, .inr (1, [.ref q_knownPower_rest, .ref q_knownPower_shares, .int m2]))]) → va_S A0 H0 H1 locs1 → W p l e R s m args below meth c H1 locs1 (cells + 0) (slots + 0) Q (F0 m (pc + 3) ls (.int r :: rest))) : W p l e R s m args below meth c H locs cells slots Q (F0 m pc ls (.int a_2 :: .int a_1 :: .int a_0 :: .ref q_this :: rest)) := by
  have hPc := hP.sub (ws' := [(q_this, .inr (3, [.ref q_exponents, .int x_count, .ref q_byElement, .ref q_byLetter, .ref q_hullByLetter, .int x_settled, .ref q_minors, .ref q_knownPower])), (q_exponents, .inl (k_exponents, 16, .inl x_exponents)), (q_knownPower, .inr (1, [.ref q_knownPower_rest, .ref q_knownPower_shares, .int x_knownPower_known]))]) isC h1
  have hDc := hD.sub (ws' := [(q_this, .inr (3, [.ref q_exponents, .int x_count, .ref q_byElement, .ref q_byLetter, .ref q_hullByLetter, .int x_settled, .ref q_minors, .ref q_knownPower])), (q_exponents, .inl (k_exponents, 16, .inl x_exponents)), (q_knownPower, .inr (1, [.ref q_knownPower_rest, .ref q_knownPower_shares, .int x_knownPower_known]))]) isC h3 h2
  have hKc := hK.sub (tys' := [(k_exponents, .int)]) kt h7
  have hFc := va_free (wc := [(q_this, .inr (3, [.ref q_exponents, .int x_count, .ref q_byElement, .ref q_byLetter, .ref q_hullByLetter, .int x_settled, .ref q_minors, .ref q_knownPower])), (q_exponents, .inl (k_exponents, 16, .inl x_exponents)), (q_knownPower, .inr (1, [.ref q_knownPower_rest, .ref q_knownPower_shares, .int x_knownPower_known]))]) hD hS hA isC h2
  refine va_calli (va_runV (As := [.int a_0, .int a_1, .int a_2]) (rest := rest) S (c_SR_multiply l dC dI q_this q_exponents q_byElement q_byLetter q_hullByLetter q_minors q_knownPower q_knownPower_rest q_knownPower_shares k_exponents H.size x_count x_settled x_exponents x_knownPower_known a_0 a_1 a_2 post hw) cw ⟨zz_blind, va_recv hKc hPc (ci := 3) (q0 := 0) rfl rfl, fun U hU hW => ⟨rfl, by rw [hU], by rw [hU]; exact hPc, va_K.moved hW.alike hKc, hDc.weaken (fun _ _ _ _ => trivial)⟩⟩ rfl rfl hsize rfl (lv_room hrest) hdg hf) hS (fun q _ h => hFc q h) hFc (fun r u t H1 locs ht hvm hw hB hz1 hk1 hS => ?_)
  obtain ⟨hP1, hK1, hD1⟩ := hB
  rw [ht] at hP1
  obtain ⟨hP2, hD2⟩ := va_join (wr := wr) (w1 := [(q_this, .inr (3, [.ref q_exponents, .int x_count, .ref q_byElement, .ref q_byLetter, .ref q_hullByLetter, .int u.1, .ref q_minors, .ref q_knownPower])), (q_exponents, .inl (k_exponents, 16, .inl u.2.1)), (q_knownPower, .inr (1, [.ref q_knownPower_rest, .ref q_knownPower_shares, .int u.2.2]))]) hP hD isC isR h2 h4 h5 h6 hk1 hFc hP1 hD1
  exact kk r u.1 u.2.1 u.2.2 H1 locs hw hP2 hD2 hS
abbrev rm_SR_multiplyx : Room := { frames := 8, cells := 1, slots := 6, locals := 142 }
abbrev xz_SR_multiplyx (dC : Nat → ClassId) (dI : Nat → Nat → Nat) (q_this q_exponents q_byElement q_byLetter q_hullByLetter q_minors q_knownPower q_knownPower_rest q_knownPower_shares : Nat) (k_exponents : ClassId) (x_count : Int32) (px : String → Int32 → (Nat → Int32) → Int32 → Prop) (A : Nat → Prop) : String → State → State → Prop := vx_X (fun (u : String × (Int32 × (Nat → Int32) × Int32)) => px u.1 u.2.1 u.2.2.1 u.2.2.2) (fun (E9 : String) (u : String × (Int32 × (Nat → Int32) × Int32)) (t : State) => u.1 = E9 ∧ va_P (dC, dI) zz_cl [(q_this, .inr (3, [.ref q_exponents, .int x_count, .ref q_byElement, .ref q_byLetter, .ref q_hullByLetter, .int u.2.1, .ref q_minors, .ref q_knownPower])), (q_exponents, .inl (k_exponents, 16, .inl u.2.2.1)), (q_knownPower, .inr (1, [.ref q_knownPower_rest, .ref q_knownPower_shares, .int u.2.2.2]))] t.heap ∧ va_K (dC, dI) zz_cl [(k_exponents, .int)] t ∧ va_D A [(q_this, .inr (3, [.ref q_exponents, .int x_count, .ref q_byElement, .ref q_byLetter, .ref q_hullByLetter, .int u.2.1, .ref q_minors, .ref q_knownPower])), (q_exponents, .inl (k_exponents, 16, .inl u.2.2.1)), (q_knownPower, .inr (1, [.ref q_knownPower_rest, .ref q_knownPower_shares, .int u.2.2.2]))]) A
def cx_SR_multiplyx (p : Program) (l : Launch) (s : State) (m : MethodId) (args : Array Value) (meth : Method) (c : Code) : Prop := p.tables.exec = Jvm.exec ∧ c.code = b_SR_multiply ∧ meth.sig.returnType = (some .boolean) ∧ c.maxLocals = 7 ∧ s.vm.findClass "StructureRows" = some m.cls ∧ (∀ w ∈ zz_GW, w.before args s = true) ∧ meth.locks = false ∧ (∀ x ∈ c.exceptionTable.toList, False) ∧ l.stackTraces = false
def wp_SR_multiplyx (x_count : Int32) (x_settled : Int32) (x_exponents : Nat → Int32) (x_knownPower_known : Int32) (a_0 : Int32) (a_1 : Int32) (a_2 : Int32) (px : String → Int32 → (Nat → Int32) → Int32 → Prop) : Prop := (wp_SR_requireElementx x_count x_settled a_0 (fun (E9 : String) => px E9 x_settled x_exponents x_knownPower_known)) ∨ (wp_SR_requireElement x_count x_settled a_0  ((wp_SR_requireElementx x_count x_settled a_1 (fun (E9 : String) => px E9 x_settled x_exponents x_knownPower_known)) ∨ (wp_SR_requireElement x_count x_settled a_1  ((¬ a_0 = a_1 → (wp_SR_requireExponentx a_2 (fun (E9 : String) => px E9 x_settled x_exponents x_knownPower_known))) ∧ (a_0 = a_1 → (px "java/lang/IllegalArgumentException" x_settled x_exponents x_knownPower_known))))))
set_option maxHeartbeats 4000000 in
set_option maxRecDepth 100000 in
theorem c_SR_multiplyx (l : Launch) (hl9 : l.stackTraces = false) (sa : Nat → Nat) (dC : Nat → ClassId) (dI : Nat → Nat → Nat) (q_this q_exponents q_byElement q_byLetter q_hullByLetter q_minors q_knownPower q_knownPower_rest q_knownPower_shares : Nat) (k_exponents : ClassId) (sz : Nat) (x_count : Int32) (x_settled : Int32) (x_exponents : Nat → Int32) (x_knownPower_known : Int32) (a_0 : Int32) (a_1 : Int32) (a_2 : Int32) (px : String → Int32 → (Nat → Int32) → Int32 → Prop) (hw : wp_SR_multiplyx x_count x_settled x_exponents x_knownPower_known a_0 a_1 a_2 px) : vx_Met l y_SR_multiply (zz_w y_SR_multiply b_SR_multiply 7 (some .boolean)) rm_SR_multiplyx (va_Pc [.ref q_this, .int a_0, .int a_1, .int a_2] (fun U => U.heap.size = sz ∧ va_P (dC, dI) zz_cl [(q_this, .inr (3, [.ref q_exponents, .int x_count, .ref q_byElement, .ref q_byLetter, .ref q_hullByLetter, .int x_settled, .ref q_minors, .ref q_knownPower])), (q_exponents, .inl (k_exponents, 16, .inl x_exponents)), (q_knownPower, .inr (1, [.ref q_knownPower_rest, .ref q_knownPower_shares, .int x_knownPower_known]))] U.heap ∧ va_K (dC, dI) zz_cl [(k_exponents, .int)] U ∧ va_D (fun _ => True) [(q_this, .inr (3, [.ref q_exponents, .int x_count, .ref q_byElement, .ref q_byLetter, .ref q_hullByLetter, .int x_settled, .ref q_minors, .ref q_knownPower])), (q_exponents, .inl (k_exponents, 16, .inl x_exponents)), (q_knownPower, .inr (1, [.ref q_knownPower_rest, .ref q_knownPower_shares, .int x_knownPower_known]))] ∧ zz_X sa (va_A [(q_this, .inr (3, [.ref q_exponents, .int x_count, .ref q_byElement, .ref q_byLetter, .ref q_hullByLetter, .int x_settled, .ref q_minors, .ref q_knownPower])), (q_exponents, .inl (k_exponents, 16, .inl x_exponents)), (q_knownPower, .inr (1, [.ref q_knownPower_rest, .ref q_knownPower_shares, .int x_knownPower_known]))] sz) U)) (va_Qv (fun (_ : Unit) => False) (fun _ _ => True) (va_A [(q_this, .inr (3, [.ref q_exponents, .int x_count, .ref q_byElement, .ref q_byLetter, .ref q_hullByLetter, .int x_settled, .ref q_minors, .ref q_knownPower])), (q_exponents, .inl (k_exponents, 16, .inl x_exponents)), (q_knownPower, .inr (1, [.ref q_knownPower_rest, .ref q_knownPower_shares, .int x_knownPower_known]))] sz)) (xz_SR_multiplyx dC dI q_this q_exponents q_byElement q_byLetter q_hullByLetter q_minors q_knownPower q_knownPower_rest q_knownPower_shares k_exponents x_count px (va_A [(q_this, .inr (3, [.ref q_exponents, .int x_count, .ref q_byElement, .ref q_byLetter, .ref q_hullByLetter, .int x_settled, .ref q_minors, .ref q_knownPower])), (q_exponents, .inl (k_exponents, 16, .inl x_exponents)), (q_knownPower, .inr (1, [.ref q_knownPower_rest, .ref q_knownPower_shares, .int x_knownPower_known]))] sz)) 1 6 (va_A [(q_this, .inr (3, [.ref q_exponents, .int x_count, .ref q_byElement, .ref q_byLetter, .ref q_hullByLetter, .int x_settled, .ref q_minors, .ref q_knownPower])), (q_exponents, .inl (k_exponents, 16, .inl x_exponents)), (q_knownPower, .inr (1, [.ref q_knownPower_rest, .ref q_knownPower_shares, .int x_knownPower_known]))] sz) := by
  refine vx_ofW (cc := b_SR_multiply) (maxL := 7) (ret := (some .boolean)) (by decide) rfl ?_
  intro p e s m args below meth c s₁ B hml hne hv
  obtain ⟨rfl, hsz, hP, hK, hD0, hX⟩ := hv
  have hx := B.exec
  have hb := B.bytes
  have hr := B.returns
  have hts0 := atoms_spec (ws := (zz_w y_SR_multiply b_SR_multiply 7 (some .boolean))) B.pre
  have hts : ∀ w ∈ zz_GW, w.before _ s = true := fun w h => hts0 w (List.mem_cons_of_mem _ h)
  clear hts0
  have hown : s.vm.findClass "StructureRows" = some m.cls := findClass_of_methodNamed B.named
  have hlocks := B.notSynchronized
  have C0 : cx_SR_multiplyx p l s m _ meth c := ⟨hx, hb, hr, hml, hown, hts, hlocks, hne, hl9⟩
  subst hsz
  have hD := hD0.self (sz := s.heap.size)
  generalize hAe : va_A [(q_this, .inr (3, [.ref q_exponents, .int x_count, .ref q_byElement, .ref q_byLetter, .ref q_hullByLetter, .int x_settled, .ref q_minors, .ref q_knownPower])), (q_exponents, .inl (k_exponents, 16, .inl x_exponents)), (q_knownPower, .inr (1, [.ref q_knownPower_rest, .ref q_knownPower_shares, .int x_knownPower_known]))] s.heap.size = A at hD hX ⊢
  have hA : ∀ q : Nat, s.heap.size ≤ q → A q := fun q h => by rw [← hAe]; exact Or.inr h
  clear hAe hD0
  have hS : va_S A s.heap s.heap [] := va_S.rf
  have hl := lv_entry ([.ref q_this, .int a_0, .int a_1, .int a_2]) (n := 7) (Nat.le_of_ble_eq_true rfl)
  rw [lg_entry_eq]
  generalize (lg_sl ([.ref q_this, .int a_0, .int a_1, .int a_2]) ++ List.replicate (7 - (lg_sl ([.ref q_this, .int a_0, .int a_1, .int a_2])).length) Slot.unset).toArray = ls at hl ⊢
  replace hl : lv_has ls 7 [(0, .ref q_this), (1, .int a_0), (2, .int a_1), (3, .int a_2)] := hl
  unfold wp_SR_multiplyx at hw
  change W p l e rm_SR_multiplyx s m _ below meth c s.heap [] 0 0 _ _
  refine lv_aload_n hx hb d_SR_multiply_0 rfl (lv_at hl 0 rfl) ?_
  refine lv_iload_n hx hb d_SR_multiply_1 rfl (lv_at hl 1 rfl) ?_
  rcases hw with hw | hw
  · refine go_SR_requireElementx (wr := [(q_exponents, .inl (k_exponents, 16, .inl x_exponents)), (q_knownPower, .inr (1, [.ref q_knownPower_rest, .ref q_knownPower_shares, .int x_knownPower_known]))]) ⟨hx, hb, hml, hown, hts⟩ (zz_cwV 1 hts tw_312 tw_309 tw_311 tw_11 tw_31 ⟨by decide, by decide, by decide +kernel⟩ ⟨Nat.le_of_ble_eq_true rfl, Nat.le_of_ble_eq_true rfl⟩) hl9 hX hK hP hD hS hA [0] [1, 2] [] rfl rfl (by decide) rfl (by decide) (by decide) rfl hw hl.1 (Nat.le_of_ble_eq_true rfl) d_SR_multiply_2 ⟨Nat.le_of_ble_eq_true rfl, Nat.le_of_ble_eq_true rfl⟩ (fun E9 ce q9 H locs hw hP hD hS hce hcv hcl => ?_)
    replace hP : va_P (dC, dI) zz_cl [(q_exponents, .inl (k_exponents, 16, .inl x_exponents)), (q_knownPower, .inr (1, [.ref q_knownPower_rest, .ref q_knownPower_shares, .int x_knownPower_known])), (q_this, .inr (3, [.ref q_exponents, .int x_count, .ref q_byElement, .ref q_byLetter, .ref q_hullByLetter, .int x_settled, .ref q_minors, .ref q_knownPower]))] H := hP
    replace hD : va_D A [(q_exponents, .inl (k_exponents, 16, .inl x_exponents)), (q_knownPower, .inr (1, [.ref q_knownPower_rest, .ref q_knownPower_shares, .int x_knownPower_known])), (q_this, .inr (3, [.ref q_exponents, .int x_count, .ref q_byElement, .ref q_byLetter, .ref q_hullByLetter, .int x_settled, .ref q_minors, .ref q_knownPower]))] := hD
    exact vx_out (E := E9) (fun x hx => (hne x hx).elim) hlocks hce hcv hcl (fun t ht ha => ⟨(E9, (x_settled, x_exponents, x_knownPower_known)), hw, ⟨rfl, by rw [ht]; exact hP.sub [2, 0, 1] rfl, va_K.moved ha hK, hD.sub [2, 0, 1] (by decide) rfl⟩, hS.F ht⟩) hS.2.2 (Nat.le_of_ble_eq_true rfl) (Nat.le_of_ble_eq_true rfl)
  · refine go_SR_requireElement (wr := [(q_exponents, .inl (k_exponents, 16, .inl x_exponents)), (q_knownPower, .inr (1, [.ref q_knownPower_rest, .ref q_knownPower_shares, .int x_knownPower_known]))]) ⟨hx, hb, hml, hown, hts⟩ (zz_cwV 1 hts tw_312 tw_309 tw_311 tw_11 tw_31 ⟨by decide, by decide, by decide +kernel⟩ ⟨Nat.le_of_ble_eq_true rfl, Nat.le_of_ble_eq_true rfl⟩) hK hP hD hS hA [0] [1, 2] [] rfl rfl (by decide) rfl (by decide) (by decide) rfl hw hl.1 (Nat.le_of_ble_eq_true rfl) d_SR_multiply_2 ⟨Nat.le_of_ble_eq_true rfl, Nat.le_of_ble_eq_true rfl⟩ (fun H locs hw hP hD hS => ?_)
    replace hP : va_P (dC, dI) zz_cl [(q_exponents, .inl (k_exponents, 16, .inl x_exponents)), (q_knownPower, .inr (1, [.ref q_knownPower_rest, .ref q_knownPower_shares, .int x_knownPower_known])), (q_this, .inr (3, [.ref q_exponents, .int x_count, .ref q_byElement, .ref q_byLetter, .ref q_hullByLetter, .int x_settled, .ref q_minors, .ref q_knownPower]))] H := hP
    replace hD : va_D A [(q_exponents, .inl (k_exponents, 16, .inl x_exponents)), (q_knownPower, .inr (1, [.ref q_knownPower_rest, .ref q_knownPower_shares, .int x_knownPower_known])), (q_this, .inr (3, [.ref q_exponents, .int x_count, .ref q_byElement, .ref q_byLetter, .ref q_hullByLetter, .int x_settled, .ref q_minors, .ref q_knownPower]))] := hD
    refine lv_aload_n hx hb d_SR_multiply_5 rfl (lv_at hl 0 rfl) ?_
    refine lv_iload_n hx hb d_SR_multiply_6 rfl (lv_at hl 2 rfl) ?_
    rcases hw with hw | hw
    · refine go_SR_requireElementx (wr := [(q_exponents, .inl (k_exponents, 16, .inl x_exponents)), (q_knownPower, .inr (1, [.ref q_knownPower_rest, .ref q_knownPower_shares, .int x_knownPower_known]))]) ⟨hx, hb, hml, hown, hts⟩ (zz_cwV 1 hts tw_312 tw_309 tw_311 tw_11 tw_31 ⟨by decide, by decide, by decide +kernel⟩ ⟨Nat.le_of_ble_eq_true rfl, Nat.le_of_ble_eq_true rfl⟩) hl9 hX hK hP hD hS hA [2] [0, 1] [] rfl rfl (by decide) rfl (by decide) (by decide) rfl hw hl.1 (Nat.le_of_ble_eq_true rfl) d_SR_multiply_7 ⟨Nat.le_of_ble_eq_true rfl, Nat.le_of_ble_eq_true rfl⟩ (fun E9 ce q9 H locs hw hP hD hS hce hcv hcl => ?_)
      replace hP : va_P (dC, dI) zz_cl [(q_exponents, .inl (k_exponents, 16, .inl x_exponents)), (q_knownPower, .inr (1, [.ref q_knownPower_rest, .ref q_knownPower_shares, .int x_knownPower_known])), (q_this, .inr (3, [.ref q_exponents, .int x_count, .ref q_byElement, .ref q_byLetter, .ref q_hullByLetter, .int x_settled, .ref q_minors, .ref q_knownPower]))] H := hP
      replace hD : va_D A [(q_exponents, .inl (k_exponents, 16, .inl x_exponents)), (q_knownPower, .inr (1, [.ref q_knownPower_rest, .ref q_knownPower_shares, .int x_knownPower_known])), (q_this, .inr (3, [.ref q_exponents, .int x_count, .ref q_byElement, .ref q_byLetter, .ref q_hullByLetter, .int x_settled, .ref q_minors, .ref q_knownPower]))] := hD
      exact vx_out (E := E9) (fun x hx => (hne x hx).elim) hlocks hce hcv hcl (fun t ht ha => ⟨(E9, (x_settled, x_exponents, x_knownPower_known)), hw, ⟨rfl, by rw [ht]; exact hP.sub [2, 0, 1] rfl, va_K.moved ha hK, hD.sub [2, 0, 1] (by decide) rfl⟩, hS.F ht⟩) hS.2.2 (Nat.le_of_ble_eq_true rfl) (Nat.le_of_ble_eq_true rfl)
    · refine go_SR_requireElement (wr := [(q_exponents, .inl (k_exponents, 16, .inl x_exponents)), (q_knownPower, .inr (1, [.ref q_knownPower_rest, .ref q_knownPower_shares, .int x_knownPower_known]))]) ⟨hx, hb, hml, hown, hts⟩ (zz_cwV 1 hts tw_312 tw_309 tw_311 tw_11 tw_31 ⟨by decide, by decide, by decide +kernel⟩ ⟨Nat.le_of_ble_eq_true rfl, Nat.le_of_ble_eq_true rfl⟩) hK hP hD hS hA [2] [0, 1] [] rfl rfl (by decide) rfl (by decide) (by decide) rfl hw hl.1 (Nat.le_of_ble_eq_true rfl) d_SR_multiply_7 ⟨Nat.le_of_ble_eq_true rfl, Nat.le_of_ble_eq_true rfl⟩ (fun H locs hw hP hD hS => ?_)
      replace hP : va_P (dC, dI) zz_cl [(q_exponents, .inl (k_exponents, 16, .inl x_exponents)), (q_knownPower, .inr (1, [.ref q_knownPower_rest, .ref q_knownPower_shares, .int x_knownPower_known])), (q_this, .inr (3, [.ref q_exponents, .int x_count, .ref q_byElement, .ref q_byLetter, .ref q_hullByLetter, .int x_settled, .ref q_minors, .ref q_knownPower]))] H := hP
      replace hD : va_D A [(q_exponents, .inl (k_exponents, 16, .inl x_exponents)), (q_knownPower, .inr (1, [.ref q_knownPower_rest, .ref q_knownPower_shares, .int x_knownPower_known])), (q_this, .inr (3, [.ref q_exponents, .int x_count, .ref q_byElement, .ref q_byLetter, .ref q_hullByLetter, .int x_settled, .ref q_minors, .ref q_knownPower]))] := hD
      refine lv_iload_n hx hb d_SR_multiply_10 rfl (lv_at hl 1 rfl) ?_
      refine lv_iload_n hx hb d_SR_multiply_11 rfl (lv_at hl 2 rfl) ?_
      refine lv_icmp_ne (tgt := 25) hx hb d_SR_multiply_12 (by decide) (fun h_1 => ?_) (fun h_1 => ?_)
      · replace hw := hw.1 h_1
        refine lv_iload_n hx hb d_SR_multiply_25 rfl (lv_at hl 3 rfl) ?_
        refine go_SR_requireExponentx (wr := [(q_exponents, .inl (k_exponents, 16, .inl x_exponents)), (q_knownPower, .inr (1, [.ref q_knownPower_rest, .ref q_knownPower_shares, .int x_knownPower_known])), (q_this, .inr (3, [.ref q_exponents, .int x_count, .ref q_byElement, .ref q_byLetter, .ref q_hullByLetter, .int x_settled, .ref q_minors, .ref q_knownPower]))]) ⟨hx, hb, hml, hown, hts⟩ (zz_cwS 1 hts tw_337 tw_335 tw_336 tw_31 ⟨by decide, by decide, by decide +kernel⟩ ⟨Nat.le_of_ble_eq_true rfl, Nat.le_of_ble_eq_true rfl⟩) hl9 hX hK hP hD hS hA [] [0, 1, 2] [] rfl rfl (by decide) rfl (by decide) (by decide) rfl hw hl.1 (Nat.le_of_ble_eq_true rfl) d_SR_multiply_26 ⟨Nat.le_of_ble_eq_true rfl, Nat.le_of_ble_eq_true rfl⟩ (fun E9 ce q9 H locs hw hP hD hS hce hcv hcl => ?_)
        replace hP : va_P (dC, dI) zz_cl [(q_exponents, .inl (k_exponents, 16, .inl x_exponents)), (q_knownPower, .inr (1, [.ref q_knownPower_rest, .ref q_knownPower_shares, .int x_knownPower_known])), (q_this, .inr (3, [.ref q_exponents, .int x_count, .ref q_byElement, .ref q_byLetter, .ref q_hullByLetter, .int x_settled, .ref q_minors, .ref q_knownPower]))] H := hP
        replace hD : va_D A [(q_exponents, .inl (k_exponents, 16, .inl x_exponents)), (q_knownPower, .inr (1, [.ref q_knownPower_rest, .ref q_knownPower_shares, .int x_knownPower_known])), (q_this, .inr (3, [.ref q_exponents, .int x_count, .ref q_byElement, .ref q_byLetter, .ref q_hullByLetter, .int x_settled, .ref q_minors, .ref q_knownPower]))] := hD
        exact vx_out (E := E9) (fun x hx => (hne x hx).elim) hlocks hce hcv hcl (fun t ht ha => ⟨(E9, (x_settled, x_exponents, x_knownPower_known)), hw, ⟨rfl, by rw [ht]; exact hP.sub [2, 0, 1] rfl, va_K.moved ha hK, hD.sub [2, 0, 1] (by decide) rfl⟩, hS.F ht⟩) hS.2.2 (Nat.le_of_ble_eq_true rfl) (Nat.le_of_ble_eq_true rfl)
      · replace hw := hw.2 h_1
        exact vx_throwS (own := "StructureRows") (cls := "java/lang/IllegalArgumentException") (names := zz_sup) hx hb hl9 hown (by decide +kernel) (by decide +kernel) (hts _ tw_341) (hts _ tw_41) hX.2.2.2.1.2.2.2.1 (zz_hat68 hts hX) (by decide +kernel) hX.2.2.2.2.2.1 hX.2.2.2.2.2.2 hS (hl.1.trans hml.symm) d_SR_multiply_15 d_SR_multiply_18 d_SR_multiply_19 d_SR_multiply_21 d_SR_multiply_24 (fun x hx => (hne x hx).elim) (Nat.le_of_ble_eq_true rfl) (Nat.le_of_ble_eq_true rfl) (Nat.le_of_ble_eq_true rfl) (Nat.le_of_ble_eq_true rfl) hlocks (fun t ha hsz9 hq9 => ⟨("java/lang/IllegalArgumentException", (x_settled, x_exponents, x_knownPower_known)), hw, ⟨rfl, va_P.kept (hP.sub [2, 0, 1] rfl) (fun k q hk => hq9 q.1 (va_at.lt ((hP.sub [2, 0, 1] rfl) k q hk))), va_K.moved ha hK, hD.sub [2, 0, 1] (by decide) rfl⟩, zz_F hS hsz9 hq9⟩) hS.2.2 (Nat.le_of_ble_eq_true rfl) (Nat.le_of_ble_eq_true rfl)
set_option maxHeartbeats 4000000 in
set_option maxRecDepth 100000 in
theorem go_SR_multiplyx {p : Program} {l : Launch} {e : Env} {R : Room} {s : State} {m : MethodId} {args : Array Value} {below : List Frame} {meth : Method} {c : Code} {H : Heap} {locs : List Loc} {cells slots : Nat} {Q : State → Prop} {cc : ByteArray} {nL : Nat} {Ts : List Cond} {own : String} {index : Nat} {A0 : Nat → Prop} {dC : Nat → ClassId} {dI : Nat → Nat → Nat} {ws wr : va_W} {tys : List (ClassId × FieldType)} {q_this q_exponents q_byElement q_byLetter q_hullByLetter q_minors q_knownPower q_knownPower_rest q_knownPower_shares : Nat} {k_exponents : ClassId} {sa : Nat → Nat} {x_count : Int32} {x_settled : Int32} {x_exponents : Nat → Int32} {x_knownPower_known : Int32} {a_0 : Int32} {a_1 : Int32} {a_2 : Int32} {px : String → Int32 → (Nat → Int32) → Int32 → Prop} (S : CallFix p m c cc nL s args Ts own) (cw : CallW R s args own "StructureRows" index y_SR_multiply b_SR_multiply 7 (some .boolean) (zz_w y_SR_multiply b_SR_multiply 7 (some .boolean)) rm_SR_multiplyx 1 6 3) (hl9 : l.stackTraces = false) (hX : zz_X sa A0 s) (hK : va_K (dC, dI) zz_cl tys s) (hP : va_P (dC, dI) zz_cl ws H) (hD : va_D A0 ws) (hS : va_S A0 s.heap H locs) (hA : ∀ q, s.heap.size ≤ q → A0 q) (isC isR kt : List Nat) (h1 : isC.filterMap (fun i => ws[i]?) = [(q_this, .inr (3, [.ref q_exponents, .int x_count, .ref q_byElement, .ref q_byLetter, .ref q_hullByLetter, .int x_settled, .ref q_minors, .ref q_knownPower])), (q_exponents, .inl (k_exponents, 16, .inl x_exponents)), (q_knownPower, .inr (1, [.ref q_knownPower_rest, .ref q_knownPower_shares, .int x_knownPower_known]))]) (h2 : isC.map (fun i => ws[i]?) = ([(q_this, .inr (3, [.ref q_exponents, .int x_count, .ref q_byElement, .ref q_byLetter, .ref q_hullByLetter, .int x_settled, .ref q_minors, .ref q_knownPower])), (q_exponents, .inl (k_exponents, 16, .inl x_exponents)), (q_knownPower, .inr (1, [.ref q_knownPower_rest, .ref q_knownPower_shares, .int x_knownPower_known]))] : va_W).map some) (h3 : va_nd isC = true) (h4 : isR.map (fun i => ws[i]?) = wr.map some) (h5 : va_nd isR = true) (h6 : ∀ i ∈ isR, i ∉ isC) (h7 : kt.filterMap (fun i => tys[i]?) = [(k_exponents, .int)]) (hw : wp_SR_multiplyx x_count x_settled x_exponents x_knownPower_known a_0 a_1 a_2 px) {pc : Nat} {ls : Array Slot} {rest : List Value} (hsize : ls.size = nL) (hrest : (rest.map fun v => v.category).sum ≤ 8) (hdg : decode cc pc = .ok (.invokevirtual index, 3)) (hf : cells + 1 ≤ R.cells ∧ slots + 6 ≤ R.slots) (kx : ∀ (E9 : String) (m0 : Int32) (m1 : Nat → Int32) (m2 : Int32) (ce : Cell) (q9 : Addr) (H1 : Heap) (locs1 : List Loc), px E9 m0 m1 m2 → va_P (dC, dI) zz_cl (wr ++ [(q_this, .inr (3, [.ref q_exponents, .int x_count, .ref q_byElement, .ref q_byLetter, .ref q_hullByLetter, .int m0, .ref q_minors, .ref q_knownPower])), (q_exponents, .inl (k_exponents, 16, .inl m1)), (q_knownPower, .inr (1, [.ref q_knownPower_rest, .ref q_knownPower_shares, .int m2]))]) H1 → va_D A0 (wr ++ [(q_this, .inr (3, [.ref q_exponents, .int x_count, .ref q_byElement, .ref q_byLetter, .ref q_hullByLetter, .int m0, .ref q_minors, .ref q_knownPower])), (q_exponents, .inl (k_exponents, 16, .inl m1)), (q_knownPower, .inr (1, [.ref q_knownPower_rest, .ref q_knownPower_shares, .int m2]))]) → va_S A0 s.heap H1 locs1 → H1[q9]? = some ce → ce.vm = .none → s.vm.findClass E9 = some ce.cls → vx_W p l e R s m args below meth c H1 locs1 (cells + 1) (slots + 6) Q (F0 m pc ls rest) q9) : W p l e R s m args below meth c H locs cells slots Q (F0 m pc ls (.int a_2 :: .int a_1 :: .int a_0 :: .ref q_this :: rest)) := by
  have hPc := hP.sub (ws' := [(q_this, .inr (3, [.ref q_exponents, .int x_count, .ref q_byElement, .ref q_byLetter, .ref q_hullByLetter, .int x_settled, .ref q_minors, .ref q_knownPower])), (q_exponents, .inl (k_exponents, 16, .inl x_exponents)), (q_knownPower, .inr (1, [.ref q_knownPower_rest, .ref q_knownPower_shares, .int x_knownPower_known]))]) isC h1
  have hDc := hD.sub (ws' := [(q_this, .inr (3, [.ref q_exponents, .int x_count, .ref q_byElement, .ref q_byLetter, .ref q_hullByLetter, .int x_settled, .ref q_minors, .ref q_knownPower])), (q_exponents, .inl (k_exponents, 16, .inl x_exponents)), (q_knownPower, .inr (1, [.ref q_knownPower_rest, .ref q_knownPower_shares, .int x_knownPower_known]))]) isC h3 h2
  have hKc := hK.sub (tys' := [(k_exponents, .int)]) kt h7
  have hFc := va_free (wc := [(q_this, .inr (3, [.ref q_exponents, .int x_count, .ref q_byElement, .ref q_byLetter, .ref q_hullByLetter, .int x_settled, .ref q_minors, .ref q_knownPower])), (q_exponents, .inl (k_exponents, 16, .inl x_exponents)), (q_knownPower, .inr (1, [.ref q_knownPower_rest, .ref q_knownPower_shares, .int x_knownPower_known]))]) hD hS hA isC h2
  refine vx_callv (vx_runV (As := [.int a_0, .int a_1, .int a_2]) (rest := rest) S (c_SR_multiplyx l hl9 sa dC dI q_this q_exponents q_byElement q_byLetter q_hullByLetter q_minors q_knownPower q_knownPower_rest q_knownPower_shares k_exponents H.size x_count x_settled x_exponents x_knownPower_known a_0 a_1 a_2 px hw) cw ⟨zz_blindX, va_recv hKc hPc (ci := 3) (q0 := 0) rfl rfl, fun U hU hW => ⟨rfl, by rw [hU], by rw [hU]; exact hPc, va_K.moved hW.alike hKc, hDc.weaken (fun _ _ _ _ => trivial), zz_X_to hX hS hFc hU hW⟩⟩ rfl rfl hsize rfl (lv_room hrest) hdg hf) hS (fun q _ h => hFc q h) hFc (fun q _ h => hFc q h) (fun E9 ce q9 u t H1 locs1 ht hvm hp hB hz1 hk1 hS1 hce hcv hcl => ?_) (fun u t H1 locs1 ht hvm hf9 hB hz1 hk1 hS1 => hf9.elim)
  obtain ⟨hE, hP1, hK1, hD1⟩ := hB
  rw [ht] at hP1
  obtain ⟨hP2, hD2⟩ := va_join (wr := wr) (w1 := [(q_this, .inr (3, [.ref q_exponents, .int x_count, .ref q_byElement, .ref q_byLetter, .ref q_hullByLetter, .int u.2.1, .ref q_minors, .ref q_knownPower])), (q_exponents, .inl (k_exponents, 16, .inl u.2.2.1)), (q_knownPower, .inr (1, [.ref q_knownPower_rest, .ref q_knownPower_shares, .int u.2.2.2]))]) hP hD isC isR h2 h4 h5 h6 hk1 hFc hP1 hD1
  subst hE
  exact kx u.1 u.2.1 u.2.2.1 u.2.2.2 ce q9 H1 locs1 hp hP2 hD2 hS1 hce hcv hcl
