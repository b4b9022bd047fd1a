theorem lw_621 {k n0 L : Nat} {xs : Nat → Int32} {K : Nat → Int32 → Int32 → (Nat → Int32) → Int32 → Int32 → Int32 → (Nat → Int64) → (Nat → Int32) → Int32 → Int32 → Int32 → (Nat → Int64) → (Nat → Int32) → Int32 → Int32 → Int32 → (Nat → Int64) → (Nat → Int32) → Int32 → (Nat → Int64) → Int32 → (Nat → Int64) → (Nat → Int64) → Int32 → Int32 → Int32 → Int32 → (Nat → Int32) → (Nat → Int64) → (Nat → Int32) → (Nat → Int64) → (Nat → Int64) → (Nat → Int64) → (Nat → Int64) → (Nat → Int64) → (Nat → Int64) → (Nat → Int64) → (Nat → Int64) → Int32 → Prop} {st : Int32} {ex : Nat → Int32} {eh : Int32} {ew : Int32} {ei : Int32} {ec : Nat → Int64} {eb : Nat → Int32} {lh : Int32} {lw : Int32} {li : Int32} {lc : Nat → Int64} {lb : Nat → Int32} {hh : Int32} {hw : Int32} {hi : Int32} {hc : Nat → Int64} {hb : Nat → Int32} {rs : Int32} {vs : Nat → Int64} {kk : Int32} {kr : Nat → Int64} {ks : Nat → Int64} {mc : Int32} {mm : Int32} {ma : Nat → Int64} {mb : Nat → Int32} {mr : Nat → Int64} {mx : Nat → Int64} {mt : Nat → Int64} {mac : Nat → Int64} {mp : Nat → Int64} {ml : Nat → Int64} {mi : Nat → Int64} {o : Nat → Int64} (hK : lw_H k K) (h01 : kk = 0 ∨ kk = 1) (hok : st_ok n0 ex) (hs : st ≠ 0 → st_El n0 ex eh ew ei ec ∧ st_Hu n0 ex hh hw hi hc) (hks : kk ≠ 0 → ∀ r p B, hn_Grp 4 n0 (st_X n0 ex) r p B → ∀ i, i < r → ks i = mp i) (h1 : vp_in (nI (5 * k) + 1) L) : wp_LW_law_621 k (nI (5 * k)) L xs K (nI n0) st ex eh ew ei ec eb lh lw li lc lb hh hw hi hc hb rs vs kk kr ks mc (nI n0) mm kk ex ma mb mr mx mt mac mp ml mi o := by
  have hn := hok.1
  refine ⟨h1, ?_⟩
  generalize xs (nI (5 * k) + 1).toNatClampNeg = a
  by_cases hC : ∃ r p K, hn_Grp 4 n0 (st_X n0 ex) r p K ∧ rg a r
  · obtain ⟨r0, p0, K0, hK0, ⟨i, hi, rfl⟩⟩ := hC
    refine Or.inl (st_settle hok hs (fun s1 x1 x2 x3 x4 x5 y1 y2 y3 y4 y5 z1 z2 z3 z4 z5 hx hE hH => ?_))
    obtain ⟨ρ, p, B, pK, e1, e2, e3, hρ, hG, hf, hKr, hfK⟩ := st_g hok hE
    have er : ρ = r0 := (hn_Grp_one hG hK0).1
    subst e1 e2 e3
    show wp_SR_requireBelow (nI i) (nI ρ) _
    have c1 := cr_pos hok hG (k := i) (by omega)
    have c2 := dv_grs hok (s := i) 16 (Nat.le_refl _)
    have c3 : pr_sm ((dv_gr (st_X n0 ex) i 16 : Nat) : Int) := by unfold pr_sm; omega
    refine sr_below (by omega) ⟨i, by omega, rfl⟩ (dv_expand hn (fun f hD => dv_divisor hok (by omega) hD ?_))
    rw [← dv_g16 hn]
    refine ⟨fun q => ?_, fun _ => ?_⟩
    · rw [pr_cmple c3] at q; omega
    rw [nI_1]
    refine dv_divisor hok (by omega) hD ?_
    rw [← dv_g16 hn]
    refine ⟨fun q => ?_, pz_in (n := 0) (by omega) (by omega), fun w hw => ⟨h1, mi_findGroup hok (fun r p' B' f' g' rw' td' hr hG' htd => mi_rg (by omega) (fun _ => ⟨fun q => absurd q (by decide), fun _ => ⟨fun _ => ?_, fun q => absurd (show (0 : Int32) ≤ 0 by decide) q⟩⟩) (fun q => absurd ⟨i, by have := (hn_Grp_one hG hG').1; omega, rfl⟩ q))⟩⟩
    · rw [pr_eq0 c3] at q; omega
    rw [nI_1]
    refine dv_common hok (by omega) (fun m1 => dv_common hok (by omega) (fun m2 => ⟨fun q => ?_, ?_⟩))
    · rw [pr_eq0 c3] at q; omega
    refine lw_fin0 ?_ (lw_go hK ⟨rfl, rfl, rfl, h01, n0, rfl, rfl, hok, fun _ => ⟨hE, hH⟩, hks⟩)
    rw [hw, lw_w0]
  · refine Or.inr (st_settle hok hs (fun s1 x1 x2 x3 x4 x5 y1 y2 y3 y4 y5 z1 z2 z3 z4 z5 hx hE hH => ?_))
    obtain ⟨ρ, p, B, pK, e1, e2, e3, hρ, hG, hf, hKr, hfK⟩ := st_g hok hE
    subst e1 e2 e3
    refine sr_belowx (n := ρ) (by omega) (fun q => hC ⟨_, _, _, hG, q⟩) ⟨rfl, h1, mi_findGroup hok (fun r p' B' f' g' rw' td' hr hG' htd => mi_rg (by omega) (fun q => absurd ⟨_, _, _, hG', q⟩ hC) (fun _ => ⟨fun _ => ⟨fun q => absurd q (by decide), fun _ => lw_fin1 (by decide) (lw_go hK ⟨rfl, rfl, rfl, h01, n0, rfl, rfl, hok, fun _ => ⟨hE, hH⟩, hks⟩)⟩, fun q => absurd rfl q⟩))⟩
theorem lw_767 {k n0 L : Nat} {xs : Nat → Int32} {K : Nat → Int32 → Int32 → (Nat → Int32) → Int32 → Int32 → Int32 → (Nat → Int64) → (Nat → Int32) → Int32 → Int32 → Int32 → (Nat → Int64) → (Nat → Int32) → Int32 → Int32 → Int32 → (Nat → Int64) → (Nat → Int32) → Int32 → (Nat → Int64) → Int32 → (Nat → Int64) → (Nat → Int64) → Int32 → Int32 → Int32 → Int32 → (Nat → Int32) → (Nat → Int64) → (Nat → Int32) → (Nat → Int64) → (Nat → Int64) → (Nat → Int64) → (Nat → Int64) → (Nat → Int64) → (Nat → Int64) → (Nat → Int64) → (Nat → Int64) → Int32 → Prop} {st : Int32} {ex : Nat → Int32} {eh : Int32} {ew : Int32} {ei : Int32} {ec : Nat → Int64} {eb : Nat → Int32} {lh : Int32} {lw : Int32} {li : Int32} {lc : Nat → Int64} {lb : Nat → Int32} {hh : Int32} {hw : Int32} {hi : Int32} {hc : Nat → Int64} {hb : Nat → Int32} {rs : Int32} {vs : Nat → Int64} {kk : Int32} {kr : Nat → Int64} {ks : Nat → Int64} {mc : Int32} {mm : Int32} {ma : Nat → Int64} {mb : Nat → Int32} {mr : Nat → Int64} {mx : Nat → Int64} {mt : Nat → Int64} {mac : Nat → Int64} {mp : Nat → Int64} {ml : Nat → Int64} {mi : Nat → Int64} {o : Nat → Int64} (hK : lw_H k K) (h01 : kk = 0 ∨ kk = 1) (hok : st_ok n0 ex) (hs : st ≠ 0 → st_El n0 ex eh ew ei ec ∧ st_Hu n0 ex hh hw hi hc) (hks : kk ≠ 0 → ∀ r p B, hn_Grp 4 n0 (st_X n0 ex) r p B → ∀ i, i < r → ks i = mp i) (h1 : vp_in (nI (5 * k) + 1) L) : wp_LW_law_767 k (nI (5 * k)) L xs K (nI n0) st ex eh ew ei ec eb lh lw li lc lb hh hw hi hc hb rs vs kk kr ks mc (nI n0) mm kk ex ma mb mr mx mt mac mp ml mi o := by
  have hn := hok.1
  refine ⟨h1, ?_⟩
  generalize xs (nI (5 * k) + 1).toNatClampNeg = a
  rcases h01 with rfl | rfl
  · refine Or.inr ⟨fi_bool0.1, fun q => absurd rfl q, fun _ => Or.inl ⟨rfl, h1, fun q => absurd rfl q, fun _ => ?_⟩⟩
    exact lw_fin1 (by decide) (lw_go hK ⟨rfl, rfl, rfl, Or.inl rfl, n0, rfl, rfl, hok, hs, hks⟩)
  by_cases hC : ∃ r p K, hn_Grp 4 n0 (st_X n0 ex) r p K ∧ rg a r
  · obtain ⟨r0, p0, K0, hK0, ⟨i, hi, rfl⟩⟩ := hC
    refine Or.inl ⟨fi_bool1.1, fun _ => st_settle hok hs (fun s1 x1 x2 x3 x4 x5 y1 y2 y3 y4 y5 z1 z2 z3 z4 z5 hx hE hH => ?_), fun q => absurd q (by decide)⟩
    obtain ⟨ρ, p, B, pK, e1, e2, e3, hρ, hG, hf, hKr, hfK⟩ := st_g hok hE
    have er : ρ = r0 := (hn_Grp_one hG hK0).1
    subst e1 e2 e3
    refine sr_below (n := ρ) (by omega) ⟨i, by omega, rfl⟩ ⟨pz_in (by omega) (by omega), ?_⟩
    rw [pz_c (by omega)]
    refine ⟨pz_in (n := 0) (by omega) (by omega), fun w hw => ⟨h1, fun _ => mi_findGroup hok (fun r p' B' f' g' rw' td' hr hG' htd => mi_rg (by omega) (fun _ => ⟨fun q => absurd q (by decide), fun _ => ⟨fun _ => ⟨pz_in (by omega) (by omega), ?_⟩, fun q => absurd (show (0 : Int32) ≤ 0 by decide) q⟩⟩) (fun q => absurd ⟨i, by have := (hn_Grp_one hG hG').1; omega, rfl⟩ q)), fun q => absurd q (by decide)⟩⟩
    rw [pz_c (by omega)]
    refine lw_fin0 ?_ (lw_go hK ⟨rfl, rfl, rfl, Or.inr rfl, n0, rfl, rfl, hok, fun _ => ⟨hE, hH⟩, hks⟩)
    rw [hw, lw_w0]
    exact hks (by decide) _ _ _ hK0 i hi
  · refine Or.inr ⟨fi_bool1.1, fun _ => st_settle hok hs (fun s1 x1 x2 x3 x4 x5 y1 y2 y3 y4 y5 z1 z2 z3 z4 z5 hx hE hH => ?_), fun q => absurd q (by decide)⟩
    obtain ⟨ρ, p, B, pK, e1, e2, e3, hρ, hG, hf, hKr, hfK⟩ := st_g hok hE
    subst e1 e2 e3
    refine sr_belowx (n := ρ) (by omega) (fun q => hC ⟨_, _, _, hG, q⟩) (Or.inr ⟨rfl, h1, fun _ => mi_findGroup hok (fun r p' B' f' g' rw' td' hr hG' htd => mi_rg (by omega) (fun q => absurd ⟨_, _, _, hG', q⟩ hC) (fun _ => ⟨fun _ => ⟨fun q => absurd q (by decide), fun _ => lw_fin1 (by decide) (lw_go hK ⟨rfl, rfl, rfl, Or.inr rfl, n0, rfl, rfl, hok, fun _ => ⟨hE, hH⟩, hks⟩)⟩, fun q => absurd rfl q⟩)), fun q => absurd q (by decide)⟩)
theorem lw_822 {k n0 L : Nat} {xs : Nat → Int32} {K : Nat → Int32 → Int32 → (Nat → Int32) → Int32 → Int32 → Int32 → (Nat → Int64) → (Nat → Int32) → Int32 → Int32 → Int32 → (Nat → Int64) → (Nat → Int32) → Int32 → Int32 → Int32 → (Nat → Int64) → (Nat → Int32) → Int32 → (Nat → Int64) → Int32 → (Nat → Int64) → (Nat → Int64) → Int32 → Int32 → Int32 → Int32 → (Nat → Int32) → (Nat → Int64) → (Nat → Int32) → (Nat → Int64) → (Nat → Int64) → (Nat → Int64) → (Nat → Int64) → (Nat → Int64) → (Nat → Int64) → (Nat → Int64) → (Nat → Int64) → Int32 → Prop} {st : Int32} {ex : Nat → Int32} {eh : Int32} {ew : Int32} {ei : Int32} {ec : Nat → Int64} {eb : Nat → Int32} {lh : Int32} {lw : Int32} {li : Int32} {lc : Nat → Int64} {lb : Nat → Int32} {hh : Int32} {hw : Int32} {hi : Int32} {hc : Nat → Int64} {hb : Nat → Int32} {rs : Int32} {vs : Nat → Int64} {kk : Int32} {kr : Nat → Int64} {ks : Nat → Int64} {mc : Int32} {mm : Int32} {ma : Nat → Int64} {mb : Nat → Int32} {mr : Nat → Int64} {mx : Nat → Int64} {mt : Nat → Int64} {mac : Nat → Int64} {mp : Nat → Int64} {ml : Nat → Int64} {mi : Nat → Int64} {o : Nat → Int64} (hK : lw_H k K) (h01 : kk = 0 ∨ kk = 1) (hok : st_ok n0 ex) (hs : st ≠ 0 → st_El n0 ex eh ew ei ec ∧ st_Hu n0 ex hh hw hi hc) (hks : kk ≠ 0 → ∀ r p B, hn_Grp 4 n0 (st_X n0 ex) r p B → ∀ i, i < r → ks i = mp i) : wp_LW_law_822 k (nI (5 * k)) L xs K (nI n0) st ex eh ew ei ec eb lh lw li lc lb hh hw hi hc hb rs vs kk kr ks mc (nI n0) mm kk ex ma mb mr mx mt mac mp ml mi o := by
  exact ⟨fun _ => lw_go hK ⟨rfl, rfl, rfl, h01, n0, rfl, rfl, hok, hs, hks⟩, fun q => q rfl⟩
theorem lw_835 {k n0 L : Nat} {xs : Nat → Int32} {K : Nat → Int32 → Int32 → (Nat → Int32) → Int32 → Int32 → Int32 → (Nat → Int64) → (Nat → Int32) → Int32 → Int32 → Int32 → (Nat → Int64) → (Nat → Int32) → Int32 → Int32 → Int32 → (Nat → Int64) → (Nat → Int32) → Int32 → (Nat → Int64) → Int32 → (Nat → Int64) → (Nat → Int64) → Int32 → Int32 → Int32 → Int32 → (Nat → Int32) → (Nat → Int64) → (Nat → Int32) → (Nat → Int64) → (Nat → Int64) → (Nat → Int64) → (Nat → Int64) → (Nat → Int64) → (Nat → Int64) → (Nat → Int64) → (Nat → Int64) → Int32 → Prop} {st : Int32} {ex : Nat → Int32} {eh : Int32} {ew : Int32} {ei : Int32} {ec : Nat → Int64} {eb : Nat → Int32} {lh : Int32} {lw : Int32} {li : Int32} {lc : Nat → Int64} {lb : Nat → Int32} {hh : Int32} {hw : Int32} {hi : Int32} {hc : Nat → Int64} {hb : Nat → Int32} {rs : Int32} {vs : Nat → Int64} {kk : Int32} {kr : Nat → Int64} {ks : Nat → Int64} {mc : Int32} {mm : Int32} {ma : Nat → Int64} {mb : Nat → Int32} {mr : Nat → Int64} {mx : Nat → Int64} {mt : Nat → Int64} {mac : Nat → Int64} {mp : Nat → Int64} {ml : Nat → Int64} {mi : Nat → Int64} {o : Nat → Int64} (hK : lw_H k K) (h01 : kk = 0 ∨ kk = 1) (hok : st_ok n0 ex) (hs : st ≠ 0 → st_El n0 ex eh ew ei ec ∧ st_Hu n0 ex hh hw hi hc) (hks : kk ≠ 0 → ∀ r p B, hn_Grp 4 n0 (st_X n0 ex) r p B → ∀ i, i < r → ks i = mp i) : wp_LW_law_835 k (nI (5 * k)) L xs K (nI n0) st ex eh ew ei ec eb lh lw li lc lb hh hw hi hc hb rs vs kk kr ks mc (nI n0) mm kk ex ma mb mr mx mt mac mp ml mi o := by
  exact lw_go (L := L) (xs := xs) (ct := 0) (me := 0) hK ⟨rfl, rfl, rfl, Or.inl rfl, 0, rfl, rfl, ⟨by omega, fun e l he => by omega⟩, fun q => absurd rfl q, fun q => absurd rfl q⟩
theorem lw_676 {k n0 L : Nat} {xs : Nat → Int32} {K : Nat → Int32 → Int32 → (Nat → Int32) → Int32 → Int32 → Int32 → (Nat → Int64) → (Nat → Int32) → Int32 → Int32 → Int32 → (Nat → Int64) → (Nat → Int32) → Int32 → Int32 → Int32 → (Nat → Int64) → (Nat → Int32) → Int32 → (Nat → Int64) → Int32 → (Nat → Int64) → (Nat → Int64) → Int32 → Int32 → Int32 → Int32 → (Nat → Int32) → (Nat → Int64) → (Nat → Int32) → (Nat → Int64) → (Nat → Int64) → (Nat → Int64) → (Nat → Int64) → (Nat → Int64) → (Nat → Int64) → (Nat → Int64) → (Nat → Int64) → Int32 → Prop} {st : Int32} {ex : Nat → Int32} {eh : Int32} {ew : Int32} {ei : Int32} {ec : Nat → Int64} {eb : Nat → Int32} {lh : Int32} {lw : Int32} {li : Int32} {lc : Nat → Int64} {lb : Nat → Int32} {hh : Int32} {hw : Int32} {hi : Int32} {hc : Nat → Int64} {hb : Nat → Int32} {rs : Int32} {vs : Nat → Int64} {kk : Int32} {kr : Nat → Int64} {ks : Nat → Int64} {mc : Int32} {mm : Int32} {ma : Nat → Int64} {mb : Nat → Int32} {mr : Nat → Int64} {mx : Nat → Int64} {mt : Nat → Int64} {mac : Nat → Int64} {mp : Nat → Int64} {ml : Nat → Int64} {mi : Nat → Int64} {o : Nat → Int64} (hK : lw_H k K) (h01 : kk = 0 ∨ kk = 1) (hok : st_ok n0 ex) (hs : st ≠ 0 → st_El n0 ex eh ew ei ec ∧ st_Hu n0 ex hh hw hi hc) (hks : kk ≠ 0 → ∀ r p B, hn_Grp 4 n0 (st_X n0 ex) r p B → ∀ i, i < r → ks i = mp i) (h1 : vp_in (nI (5 * k) + 1) L) (h2 : vp_in (nI (5 * k) + 2) L) (h3 : vp_in (nI (5 * k) + 3) L) (h4 : vp_in (nI (5 * k) + 4) L) : wp_LW_law_676 k (nI (5 * k)) L xs K (nI n0) st ex eh ew ei ec eb lh lw li lc lb hh hw hi hc hb rs vs kk kr ks mc (nI n0) mm kk ex ma mb mr mx mt mac mp ml mi o := by
  have hn := hok.1
  refine ⟨h1, h2, h3, h4, ?_⟩
  generalize xs (nI (5 * k) + 1).toNatClampNeg = a
  generalize xs (nI (5 * k) + 2).toNatClampNeg = b
  generalize xs (nI (5 * k) + 3).toNatClampNeg = c
  generalize xs (nI (5 * k) + 4).toNatClampNeg = d
  by_cases hC : a.toInt.natAbs ≤ 5 ∧ b.toInt.natAbs ≤ 5 ∧ c.toInt.natAbs ≤ 5 ∧ d.toInt.natAbs ≤ 5
  · obtain ⟨ha, hb, hc', hd⟩ := hC
    refine Or.inl (sr_exp ha (sr_exp hb (sr_exp hc' (sr_exp hd (st_settle hok hs (fun s1 x1 x2 x3 x4 x5 y1 y2 y3 y4 y5 z1 z2 z3 z4 z5 hx hE hH => ?_))))))
    obtain ⟨ρ, p, B, pK, e1, e2, e3, hρ, hG, hf, hKr, hfK⟩ := st_g hok hE
    have hB := hG.1
    obtain ⟨hr4, hEnt⟩ := fb_ent hok hG
    subst e1 e2 e3
    refine ⟨pz_in (n := 0) (by omega) (by omega), fun w2 k2 => ⟨pz_in (n := 1) (by omega) (by omega), fun w4 k4 => ⟨pz_in (n := 2) (by omega) (by omega), fun w6 k6 => ⟨pz_in (n := 3) (by omega) (by omega), fun w8 k8 => ?_⟩⟩⟩⟩
    have hv := fi_v5 ha hb hc' hd
    have hR0 : ∀ j, j < 4 → w8 j = Int64.ofInt (fi_v a b c d j) := by
      intro j hj
      have t0 : (0 : Int32).toNatClampNeg = 0 := rfl
      have t1 : (1 : Int32).toNatClampNeg = 1 := rfl
      have t2 : (2 : Int32).toNatClampNeg = 2 := rfl
      have t3 : (3 : Int32).toNatClampNeg = 3 := rfl
      rw [k8, k6, k4, k2, t0, t1, t2, t3]
      simp only [pz_updL]
      rcases (show j = 0 ∨ j = 1 ∨ j = 2 ∨ j = 3 by omega) with rfl | rfl | rfl | rfl <;> simp [fi_v]
    refine fi_find (v := fi_v a b c d) hB hr4 hEnt hf (fun j _ => hv j) hR0 (fun m sh R' Sh' hm hsum hmin hSh => ?_) (fun hno R' Sh' => ?_)
    · refine ⟨pz_in (n := 0) (by omega) (by omega), fun w hw => ⟨h1, h2, h3, h4, mi_test hok ha hb hc' hd (fun ρ' p' B' τ sh' mm' ma' mb' mr' mt' mp' ml' mi' hG' hτ hsum' hno' hpw => ?_) (fun ρ' p' B' mm' ma' mb' mr' mt' mp' ml' mi' hG' hno' => ?_)⟩⟩
      · obtain ⟨rfl, u2⟩ := hn_Grp_one hG hG'
        have hsum2 : ∀ j, j < 4 → (τ : Int) * fi_v a b c d j = hn_sum ρ (fun i => sh' i * B i j) := fun j hj => by
          rw [hsum' j hj]; exact hn_sum_congr (fun i hi => by rw [(u2 i hi).2 j hj])
        have prop : ∀ i, i < ρ → m * sh' i = τ * sh i := fb_one hB (c := fun i => m * sh' i) (d := fun i => τ * sh i) (fun j hj => by
          rw [hn_sum_congr (g := fun i => m * (sh' i * B i j)) (fun i _ => by grind), hn_sum_mul, ← hsum2 j hj, hn_sum_congr (f := fun i => τ * sh i * B i j) (g := fun i => τ * (sh i * B i j)) (fun i _ => by grind), hn_sum_mul, ← hsum j hj]
          grind)
        have hdv : m ∣ (τ : Int) := hmin _ _ prop
        have hle : m ≤ (τ : Int) := Int.le_of_dvd (by omega) hdv
        have heq : m = (τ : Int) := by
          rcases Int.lt_or_eq_of_le hle with q | q
          · exfalso
            refine hno' m.toNat (by omega) (by omega) ?_
            have e0 : ((m.toNat : Nat) : Int) = m := by omega
            rw [e0]
            exact ⟨sh, fun j hj => by show m * fi_v a b c d j = _; rw [hsum j hj]; exact hn_sum_congr (fun i hi => by rw [(u2 i hi).2 j hj])⟩
          · exact q
        have hsh : ∀ i, i < ρ → sh' i = sh i := fun i hi => by
          have := prop i hi
          rw [← heq] at this
          exact Int.eq_of_mul_eq_mul_left (show m ≠ 0 by omega) this
        refine lw_fin0 (by rw [hw, lw_w0, heq]) (lw_go hK ⟨rfl, rfl, rfl, Or.inr rfl, n0, rfl, rfl, hok, fun _ => ⟨hE, hH⟩, fun _ r p2 B2 hG2 i hi => ?_⟩)
        have er := (hn_Grp_one hG2 hG).1
        rw [hSh i (by omega), hpw i (by omega), hsh i (by omega)]
      · obtain ⟨rfl, u2⟩ := hn_Grp_one hG hG'
        exact absurd ⟨sh, fun j hj => by show m * fi_v a b c d j = _; rw [hsum j hj]; exact hn_sum_congr (fun i hi => by rw [(u2 i hi).2 j hj])⟩ (hno' m (by omega))
    · refine ⟨pz_in (n := 0) (by omega) (by omega), fun w hw => ⟨h1, h2, h3, h4, mi_test hok ha hb hc' hd (fun ρ' p' B' τ sh' mm' ma' mb' mr' mt' mp' ml' mi' hG' hτ hsum' hno' hpw => ?_) (fun ρ' p' B' mm' ma' mb' mr' mt' mp' ml' mi' hG' hno' => ?_)⟩⟩
      · obtain ⟨rfl, u2⟩ := hn_Grp_one hG hG'
        exact absurd ⟨sh', fun j hj => by show (τ : Int) * fi_v a b c d j = _; rw [hsum' j hj]; exact hn_sum_congr (fun i hi => by rw [(u2 i hi).2 j hj])⟩ (hno (τ : Int) (by omega))
      · exact lw_fin0 (by rw [hw, lw_w0]) (lw_go hK ⟨rfl, rfl, rfl, Or.inl rfl, n0, rfl, rfl, hok, fun _ => ⟨hE, hH⟩, fun q => absurd rfl q⟩)
  · have fin : ∀ {post}, post 0 1 mm kk ma mb mr mt mp ml mi → wp_MD_test mc (nI n0) mm kk ex ma mb mr mt mp ml mi a b c d post := fun h => mi_testx hC h
    have fin2 : ∀ {px : String → Prop}, px "java/lang/IllegalArgumentException" → (wp_SR_requireExponentx a px) ∨ (wp_SR_requireExponent a ((wp_SR_requireExponentx b px) ∨ (wp_SR_requireExponent b ((wp_SR_requireExponentx c px) ∨ (wp_SR_requireExponent c (wp_SR_requireExponentx d px)))))) := by
      intro px hp
      by_cases ha : a.toInt.natAbs ≤ 5
      · refine Or.inr (sr_exp ha ?_)
        by_cases hb : b.toInt.natAbs ≤ 5
        · refine Or.inr (sr_exp hb ?_)
          by_cases hc : c.toInt.natAbs ≤ 5
          · exact Or.inr (sr_exp hc (sr_expx (fun hd => hC ⟨ha, hb, hc, hd⟩) hp))
          · exact Or.inl (sr_expx hc hp)
        · exact Or.inl (sr_expx hb hp)
      · exact Or.inl (sr_expx ha hp)
    refine Or.inr (fin2 (px := fun E9 => E9 = "java/lang/IllegalArgumentException" ∧ _) ⟨rfl, h1, h2, h3, h4, fin ?_⟩)
    exact lw_fin1 (by decide) (lw_go hK ⟨rfl, rfl, rfl, h01, n0, rfl, rfl, hok, hs, hks⟩)
