theorem sr_bb {a b : Int32} {n m : Nat} {px : String → Prop} (hn : n ≤ 1000) (hm : m ≤ 1000) (h : ¬ (rg a n ∧ rg b m)) (hp : px "java/lang/IndexOutOfBoundsException") : wp_SR_requireBelowx a (nI n) px ∨ wp_SR_requireBelow a (nI n) (wp_SR_requireBelowx b (nI m) px) := by
  by_cases ra : rg a n
  · exact Or.inr (sr_below hn ra (sr_belowx hm (fun q => h ⟨ra, q⟩) hp))
  · exact Or.inl (sr_belowx hn ra hp)
theorem lw_420 {k n0 L : Nat} {xs : Nat → Int32} {K : Nat → Int32 → Int32 → (Nat → Int32) → Int32 → Int32 → Int32 → (Nat → Int64) → (Nat → Int32) → Int32 → Int32 → Int32 → (Nat → Int64) → (Nat → Int32) → Int32 → Int32 → Int32 → (Nat → Int64) → (Nat → Int32) → Int32 → (Nat → Int64) → Int32 → (Nat → Int64) → (Nat → Int64) → Int32 → Int32 → Int32 → Int32 → (Nat → Int32) → (Nat → Int64) → (Nat → Int32) → (Nat → Int64) → (Nat → Int64) → (Nat → Int64) → (Nat → Int64) → (Nat → Int64) → (Nat → Int64) → (Nat → Int64) → (Nat → Int64) → Int32 → Prop} {st : Int32} {ex : Nat → Int32} {eh : Int32} {ew : Int32} {ei : Int32} {ec : Nat → Int64} {eb : Nat → Int32} {lh : Int32} {lw : Int32} {li : Int32} {lc : Nat → Int64} {lb : Nat → Int32} {hh : Int32} {hw : Int32} {hi : Int32} {hc : Nat → Int64} {hb : Nat → Int32} {rs : Int32} {vs : Nat → Int64} {kk : Int32} {kr : Nat → Int64} {ks : Nat → Int64} {mc : Int32} {mm : Int32} {ma : Nat → Int64} {mb : Nat → Int32} {mr : Nat → Int64} {mx : Nat → Int64} {mt : Nat → Int64} {mac : Nat → Int64} {mp : Nat → Int64} {ml : Nat → Int64} {mi : Nat → Int64} {o : Nat → Int64} (hK : lw_H k K) (h01 : kk = 0 ∨ kk = 1) (hok : st_ok n0 ex) (hs : st ≠ 0 → st_El n0 ex eh ew ei ec ∧ st_Hu n0 ex hh hw hi hc) (hks : kk ≠ 0 → ∀ r p B, hn_Grp 4 n0 (st_X n0 ex) r p B → ∀ i, i < r → ks i = mp i) (h1 : vp_in (nI (5 * k) + 1) L) (h2 : vp_in (nI (5 * k) + 2) L) : wp_LW_law_420 k (nI (5 * k)) L xs K (nI n0) st ex eh ew ei ec eb lh lw li lc lb hh hw hi hc hb rs vs kk kr ks mc (nI n0) mm kk ex ma mb mr mx mt mac mp ml mi o := by
  have hn := hok.1
  refine ⟨h1, h2, ?_⟩
  generalize xs (nI (5 * k) + 1).toNatClampNeg = a
  generalize xs (nI (5 * k) + 2).toNatClampNeg = b
  by_cases hC : ∃ r p K, hn_Ker n0 4 (st_X n0 ex) r p K ∧ rg a r ∧ rg b n0
  · obtain ⟨r0, p0, K0, hK0, ⟨i, hi, rfl⟩, ⟨j, hj, rfl⟩⟩ := hC
    refine Or.inl (st_settle hok hs (fun s1 x1 x2 x3 x4 x5 y1 y2 y3 y4 y5 z1 z2 z3 z4 z5 hx hE hH => ?_))
    obtain ⟨ρ, p, B, pK, e1, e2, e3, hρ, hG, hf, hKr, hfK⟩ := st_g hok hE
    have er : n0 - ρ = r0 := (hn_Ker_one hKr hK0).1
    subst e1 e2 e3
    show wp_SR_requireBelow (nI i) (nI n0 - nI ρ) _
    rw [pz_sub hρ]
    refine sr_below (by omega) ⟨i, by omega, rfl⟩ (sr_below (by omega) ⟨j, hj, rfl⟩ ?_)
    show wp_RD_cell _ _ _ _ (nI ρ + nI i) (nI 4 + nI j) _
    rw [nI_add, nI_add]
    refine pz_cell (by omega) (by omega) ⟨pz_in (n := 0) (by omega) (by omega), fun w hw => ⟨h1, h2, mi_relate hok (fun r p' K' f' g' rw' mx' td' hr hK' htd => mi_isEl hn (fun _ => ?_) (fun q => absurd ⟨j, hj, rfl⟩ q))⟩⟩
    obtain ⟨u1, u2⟩ := hn_Ker_one hKr hK'
    refine mi_told hr (by omega) (by omega) ?_
    refine lw_fin0 ?_ (lw_go hK ⟨rfl, rfl, rfl, h01, n0, rfl, rfl, hok, fun _ => ⟨hE, hH⟩, hks⟩)
    rw [hw, lw_w0, hfK i j (by omega) hj, htd i j (by omega) hj]
    exact congrArg Int64.ofInt ((u2 i (by omega)).2 j hj)
  · refine Or.inr (st_settle hok hs (fun s1 x1 x2 x3 x4 x5 y1 y2 y3 y4 y5 z1 z2 z3 z4 z5 hx hE hH => ?_))
    obtain ⟨ρ, p, B, pK, e1, e2, e3, hρ, hG, hf, hKr, hfK⟩ := st_g hok hE
    have hE0 := hE
    subst e1 e2 e3
    show wp_SR_requireBelowx a (nI n0 - nI ρ) _ ∨ wp_SR_requireBelow a (nI n0 - nI ρ) _
    rw [pz_sub hρ]
    refine sr_bb (by omega) (by omega) (fun q => hC ⟨_, _, _, hKr, q⟩) ⟨rfl, h1, h2, mi_relate hok (fun r p' K' f' g' rw' mx' td' hr hK' htd => mi_isEl hn (fun rb => mi_toldx hr (Or.inr (fun ra => hC ⟨r, p', K', hK', ra, rb⟩)) (lw_fin1 (by decide) (lw_go hK ⟨rfl, rfl, rfl, h01, n0, rfl, rfl, hok, fun _ => ⟨hE, hH⟩, hks⟩))) (fun _ => mi_toldx hr (Or.inl rfl) (lw_fin1 (by decide) (lw_go hK ⟨rfl, rfl, rfl, h01, n0, rfl, rfl, hok, fun _ => ⟨hE, hH⟩, hks⟩))))⟩
theorem lw_487 {k n0 L : Nat} {xs : Nat → Int32} {K : Nat → Int32 → Int32 → (Nat → Int32) → Int32 → Int32 → Int32 → (Nat → Int64) → (Nat → Int32) → Int32 → Int32 → Int32 → (Nat → Int64) → (Nat → Int32) → Int32 → Int32 → Int32 → (Nat → Int64) → (Nat → Int32) → Int32 → (Nat → Int64) → Int32 → (Nat → Int64) → (Nat → Int64) → Int32 → Int32 → Int32 → Int32 → (Nat → Int32) → (Nat → Int64) → (Nat → Int32) → (Nat → Int64) → (Nat → Int64) → (Nat → Int64) → (Nat → Int64) → (Nat → Int64) → (Nat → Int64) → (Nat → Int64) → (Nat → Int64) → Int32 → Prop} {st : Int32} {ex : Nat → Int32} {eh : Int32} {ew : Int32} {ei : Int32} {ec : Nat → Int64} {eb : Nat → Int32} {lh : Int32} {lw : Int32} {li : Int32} {lc : Nat → Int64} {lb : Nat → Int32} {hh : Int32} {hw : Int32} {hi : Int32} {hc : Nat → Int64} {hb : Nat → Int32} {rs : Int32} {vs : Nat → Int64} {kk : Int32} {kr : Nat → Int64} {ks : Nat → Int64} {mc : Int32} {mm : Int32} {ma : Nat → Int64} {mb : Nat → Int32} {mr : Nat → Int64} {mx : Nat → Int64} {mt : Nat → Int64} {mac : Nat → Int64} {mp : Nat → Int64} {ml : Nat → Int64} {mi : Nat → Int64} {o : Nat → Int64} (hK : lw_H k K) (h01 : kk = 0 ∨ kk = 1) (hok : st_ok n0 ex) (hs : st ≠ 0 → st_El n0 ex eh ew ei ec ∧ st_Hu n0 ex hh hw hi hc) (hks : kk ≠ 0 → ∀ r p B, hn_Grp 4 n0 (st_X n0 ex) r p B → ∀ i, i < r → ks i = mp i) (h1 : vp_in (nI (5 * k) + 1) L) (h2 : vp_in (nI (5 * k) + 2) L) : wp_LW_law_487 k (nI (5 * k)) L xs K (nI n0) st ex eh ew ei ec eb lh lw li lc lb hh hw hi hc hb rs vs kk kr ks mc (nI n0) mm kk ex ma mb mr mx mt mac mp ml mi o := by
  have hn := hok.1
  refine ⟨h1, h2, ?_⟩
  generalize xs (nI (5 * k) + 1).toNatClampNeg = a
  generalize xs (nI (5 * k) + 2).toNatClampNeg = b
  by_cases hC : ∃ r p K, hn_Grp 4 n0 (st_X n0 ex) r p K ∧ rg a r ∧ rg b 4
  · obtain ⟨r0, p0, K0, hK0, ⟨i, hi, rfl⟩, ⟨j, hj, rfl⟩⟩ := hC
    refine Or.inl (st_settle hok hs (fun s1 x1 x2 x3 x4 x5 y1 y2 y3 y4 y5 z1 z2 z3 z4 z5 hx hE hH => ?_))
    obtain ⟨ρ, p, B, pK, e1, e2, e3, hρ, hG, hf, hKr, hfK⟩ := st_g hok hE
    have er : ρ = r0 := (hn_Grp_one hG hK0).1
    subst e1 e2 e3
    show wp_SR_requireBelow (nI i) (nI ρ) _
    refine sr_below (by omega) ⟨i, by omega, rfl⟩ (sr_below (n := 4) (by omega) ⟨j, hj, rfl⟩ ?_)
    refine pz_cell (by omega) (by omega) ⟨pz_in (n := 0) (by omega) (by omega), fun w hw => ⟨h1, h2, mi_findGroup hok (fun r p' B' f' g' rw' td' hr hG' htd => mi_rg4 (fun _ => ?_) (fun q => absurd ⟨j, hj, rfl⟩ q))⟩⟩
    obtain ⟨u1, u2⟩ := hn_Grp_one hG hG'
    refine mi_told hr (by omega) (by omega) ?_
    refine lw_fin0 ?_ (lw_go hK ⟨rfl, rfl, rfl, h01, n0, rfl, rfl, hok, fun _ => ⟨hE, hH⟩, hks⟩)
    rw [hw, lw_w0, hf i j (by omega) hj, htd i j (by omega) hj]
    exact congrArg Int64.ofInt ((u2 i (by omega)).2 j hj)
  · refine Or.inr (st_settle hok hs (fun s1 x1 x2 x3 x4 x5 y1 y2 y3 y4 y5 z1 z2 z3 z4 z5 hx hE hH => ?_))
    obtain ⟨ρ, p, B, pK, e1, e2, e3, hρ, hG, hf, hKr, hfK⟩ := st_g hok hE
    subst e1 e2 e3
    show wp_SR_requireBelowx a (nI ρ) _ ∨ wp_SR_requireBelow a (nI ρ) _
    refine sr_bb (m := 4) (by omega) (by omega) (fun q => hC ⟨_, _, _, hG, q⟩) ⟨rfl, h1, h2, mi_findGroup hok (fun r p' B' f' g' rw' td' hr hG' htd => mi_rg4 (fun rb => mi_toldx hr (Or.inr (fun ra => hC ⟨r, p', B', hG', ra, rb⟩)) (lw_fin1 (by decide) (lw_go hK ⟨rfl, rfl, rfl, h01, n0, rfl, rfl, hok, fun _ => ⟨hE, hH⟩, hks⟩))) (fun _ => mi_toldx hr (Or.inl rfl) (lw_fin1 (by decide) (lw_go hK ⟨rfl, rfl, rfl, h01, n0, rfl, rfl, hok, fun _ => ⟨hE, hH⟩, hks⟩))))⟩
theorem lw_554 {k n0 L : Nat} {xs : Nat → Int32} {K : Nat → Int32 → Int32 → (Nat → Int32) → Int32 → Int32 → Int32 → (Nat → Int64) → (Nat → Int32) → Int32 → Int32 → Int32 → (Nat → Int64) → (Nat → Int32) → Int32 → Int32 → Int32 → (Nat → Int64) → (Nat → Int32) → Int32 → (Nat → Int64) → Int32 → (Nat → Int64) → (Nat → Int64) → Int32 → Int32 → Int32 → Int32 → (Nat → Int32) → (Nat → Int64) → (Nat → Int32) → (Nat → Int64) → (Nat → Int64) → (Nat → Int64) → (Nat → Int64) → (Nat → Int64) → (Nat → Int64) → (Nat → Int64) → (Nat → Int64) → Int32 → Prop} {st : Int32} {ex : Nat → Int32} {eh : Int32} {ew : Int32} {ei : Int32} {ec : Nat → Int64} {eb : Nat → Int32} {lh : Int32} {lw : Int32} {li : Int32} {lc : Nat → Int64} {lb : Nat → Int32} {hh : Int32} {hw : Int32} {hi : Int32} {hc : Nat → Int64} {hb : Nat → Int32} {rs : Int32} {vs : Nat → Int64} {kk : Int32} {kr : Nat → Int64} {ks : Nat → Int64} {mc : Int32} {mm : Int32} {ma : Nat → Int64} {mb : Nat → Int32} {mr : Nat → Int64} {mx : Nat → Int64} {mt : Nat → Int64} {mac : Nat → Int64} {mp : Nat → Int64} {ml : Nat → Int64} {mi : Nat → Int64} {o : Nat → Int64} (hK : lw_H k K) (h01 : kk = 0 ∨ kk = 1) (hok : st_ok n0 ex) (hs : st ≠ 0 → st_El n0 ex eh ew ei ec ∧ st_Hu n0 ex hh hw hi hc) (hks : kk ≠ 0 → ∀ r p B, hn_Grp 4 n0 (st_X n0 ex) r p B → ∀ i, i < r → ks i = mp i) (h1 : vp_in (nI (5 * k) + 1) L) (h2 : vp_in (nI (5 * k) + 2) L) : wp_LW_law_554 k (nI (5 * k)) L xs K (nI n0) st ex eh ew ei ec eb lh lw li lc lb hh hw hi hc hb rs vs kk kr ks mc (nI n0) mm kk ex ma mb mr mx mt mac mp ml mi o := by
  have hn := hok.1
  refine ⟨h1, h2, ?_⟩
  generalize xs (nI (5 * k) + 1).toNatClampNeg = a
  generalize xs (nI (5 * k) + 2).toNatClampNeg = b
  by_cases hC : ∃ r H, st_Hull n0 (st_X n0 ex) r H ∧ rg a r ∧ rg b 4
  · obtain ⟨r0, H0, hH0, ⟨i, hi, rfl⟩, ⟨j, hj, rfl⟩⟩ := hC
    refine Or.inl (st_settle hok hs (fun s1 x1 x2 x3 x4 x5 y1 y2 y3 y4 y5 z1 z2 z3 z4 z5 hx hE hH => ?_))
    obtain ⟨w4, ρ, Z, e1, e2, e3, hρ, hw4, hR, hHu⟩ := id hH
    have er : 4 - ρ = r0 := (st_hull1 hHu hH0).1
    subst e1 e2 e3
    show wp_SR_requireBelow (nI i) (nI 4 - nI ρ) _
    rw [pz_sub hρ]
    refine sr_below (by omega) ⟨i, by omega, rfl⟩ (sr_below (n := 4) (by omega) ⟨j, hj, rfl⟩ ?_)
    show wp_RD_cell _ _ _ _ (nI ρ + nI i) (nI w4 + nI j) _
    rw [nI_add, nI_add]
    refine pz_cell (by omega) (by omega) ⟨pz_in (n := 0) (by omega) (by omega), fun w hw => ⟨h1, h2, mi_findHull hok (fun r H' f' g' rw' mx' td' ac' hr hH' htd => mi_rg4 (fun _ => ?_) (fun q => absurd ⟨j, hj, rfl⟩ q))⟩⟩
    obtain ⟨u1, u2⟩ := st_hull1 hHu hH'
    refine mi_told hr (by omega) (by omega) ?_
    refine lw_fin0 ?_ (lw_go hK ⟨rfl, rfl, rfl, h01, n0, rfl, rfl, hok, fun _ => ⟨hE, hH⟩, hks⟩)
    rw [hw, lw_w0, hR (ρ + i) (w4 + j) (by omega) (by omega), htd i j (by omega) hj]
    exact congrArg Int64.ofInt (u2 i j (by omega) hj)
  · refine Or.inr (st_settle hok hs (fun s1 x1 x2 x3 x4 x5 y1 y2 y3 y4 y5 z1 z2 z3 z4 z5 hx hE hH => ?_))
    obtain ⟨w4, ρ, Z, e1, e2, e3, hρ, hw4, hR, hHu⟩ := id hH
    subst e1 e2 e3
    show wp_SR_requireBelowx a (nI 4 - nI ρ) _ ∨ wp_SR_requireBelow a (nI 4 - nI ρ) _
    rw [pz_sub hρ]
    refine sr_bb (m := 4) (by omega) (by omega) (fun q => hC ⟨_, _, hHu, q⟩) ⟨rfl, h1, h2, mi_findHull hok (fun r H' f' g' rw' mx' td' ac' hr hH' htd => mi_rg4 (fun rb => mi_toldx hr (Or.inr (fun ra => hC ⟨r, H', hH', ra, rb⟩)) (lw_fin1 (by decide) (lw_go hK ⟨rfl, rfl, rfl, h01, n0, rfl, rfl, hok, fun _ => ⟨hE, hH⟩, hks⟩))) (fun _ => mi_toldx hr (Or.inl rfl) (lw_fin1 (by decide) (lw_go hK ⟨rfl, rfl, rfl, h01, n0, rfl, rfl, hok, fun _ => ⟨hE, hH⟩, hks⟩))))⟩
