theorem lw_L {L k : Nat} (hL : L ≤ 2560) (hk : k ≤ 512) : ¬ ((Int32.ofNat L) - 5) < nI (5 * k) ↔ 5 * k + 5 ≤ L := by
  show ¬ (nI L - nI 5) < nI (5 * k) ↔ _
  rcases (show 5 ≤ L ∨ L < 5 by omega) with q | q
  · rw [pz_sub q, pz_lt (by omega) (by omega)]; omega
  · have e : (nI L - nI 5) < 0 := by
      rcases (show L = 0 ∨ L = 1 ∨ L = 2 ∨ L = 3 ∨ L = 4 by omega) with rfl | rfl | rfl | rfl | rfl <;> decide
    have e2 : (0 : Int32) ≤ nI (5 * k) := (pz_le (a := 0) (by omega) (by omega)).mpr (by omega)
    exact ⟨fun z => absurd (Int32.lt_of_lt_of_le e e2) z, fun z => by omega⟩
theorem lw_pure : ∀ (L : Nat) (xs : Nat → Int32), L ≤ 2560 → wp_LW_law_23  L xs 0 0 0 (fun _ => 0) 0 0 0 (fun _ => 0) (fun _ => 0) 0 0 0 (fun _ => 0) (fun _ => 0) 0 0 0 (fun _ => 0) (fun _ => 0) 0 (fun _ => 0) 0 (fun _ => 0) (fun _ => 0) 0 0 0 0 (fun _ => 0) (fun _ => 0) (fun _ => 0) (fun _ => 0) (fun _ => 0) (fun _ => 0) (fun _ => 0) (fun _ => 0) (fun _ => 0) (fun _ => 0) (fun _ => 0) 0 := by
  intro L xs hL P hP
  have key : ∀ d k, k + d = 512 → ∀ (ct : Int32) (st : Int32) (ex : Nat → Int32) (eh : Int32) (ew : Int32) (ei : Int32) (ec : Nat → Int64) (eb : Nat → Int32) (lh : Int32) (lw : Int32) (li : Int32) (lc : Nat → Int64) (lb : Nat → Int32) (hh : Int32) (hw : Int32) (hi : Int32) (hc : Nat → Int64) (hb : Nat → Int32) (rs : Int32) (vs : Nat → Int64) (kk : Int32) (kr : Nat → Int64) (ks : Nat → Int64) (mc : Int32) (me : Int32) (mm : Int32) (mk : Int32) (mn : Nat → Int32) (ma : Nat → Int64) (mb : Nat → Int32) (mr : Nat → Int64) (mx : Nat → Int64) (mt : Nat → Int64) (mac : Nat → Int64) (mp : Nat → Int64) (ml : Nat → Int64) (mi : Nat → Int64) (o : Nat → Int64) (u : Int32), lw_I k ct st ex eh ew ei ec eb lh lw li lc lb hh hw hi hc hb rs vs kk kr ks mc me mm mk mn ma mb mr mx mt mac mp ml mi o u → P k ct st ex eh ew ei ec eb lh lw li lc lb hh hw hi hc hb rs vs kk kr ks mc me mm mk mn ma mb mr mx mt mac mp ml mi o u := by
    intro d
    induction d with
    | zero =>
      intro k hk ct st ex eh ew ei ec eb lh lw li lc lb hh hw hi hc hb rs vs kk kr ks mc me mm mk mn ma mb mr mx mt mac mp ml mi o u hI
      obtain ⟨rfl, -⟩ := hI
      refine hP k _ _ _ _ _ _ _ _ _ _ _ _ _ _ _ _ _ _ _ _ _ _ _ _ _ _ _ _ _ _ _ _ _ _ _ _ _ _ _ ⟨by omega, fun q => ?_⟩
      rw [lw_L hL (by omega)] at q
      omega
    | succ d ih =>
      intro k hk ct st ex eh ew ei ec eb lh lw li lc lb hh hw hi hc hb rs vs kk kr ks mc me mm mk mn ma mb mr mx mt mac mp ml mi o u hI
      obtain ⟨rfl, rfl, rfl, h01, n0, rfl, rfl, hok, hs, hks⟩ := hI
      refine hP k _ _ _ _ _ _ _ _ _ _ _ _ _ _ _ _ _ _ _ _ _ _ _ _ _ _ _ _ _ _ _ _ _ _ _ _ _ _ _ ⟨by omega, fun q => ?_⟩
      rw [lw_L hL (by omega)] at q
      have hK : lw_H k P := ih (k + 1) (by omega)
      have v0 : vp_in (nI (5 * k)) L := vp_in_nI (by omega) (by omega)
      have v1 : vp_in (nI (5 * k) + 1) L := by rw [nI_1]; exact vp_in_nI (by omega) (by omega)
      have v2 : vp_in (nI (5 * k) + 2) L := by rw [show (2 : Int32) = nI 2 from rfl, nI_add]; exact vp_in_nI (by omega) (by omega)
      have v3 : vp_in (nI (5 * k) + 3) L := by rw [show (3 : Int32) = nI 3 from rfl, nI_add]; exact vp_in_nI (by omega) (by omega)
      have v4 : vp_in (nI (5 * k) + 4) L := by rw [show (4 : Int32) = nI 4 from rfl, nI_add]; exact vp_in_nI (by omega) (by omega)
      refine ⟨by omega, v0, fun v _ => ⟨fun _ => lw_go hK ⟨rfl, rfl, rfl, h01, n0, rfl, rfl, hok, hs, hks⟩, fun _ => lw_108 hK h01 hok hs hks, fun _ => lw_152 hK h01 hok hs hks v1 v2 v3, fun _ => lw_239 hK h01 hok hs hks v1 v2, fun _ => lw_307 hK h01 hok hs hks v1 v2 v3, fun _ => lw_394 hK h01 hok hs hks, fun _ => lw_407 hK h01 hok hs hks, fun _ => lw_420 hK h01 hok hs hks v1 v2, fun _ => lw_487 hK h01 hok hs hks v1 v2, fun _ => lw_554 hK h01 hok hs hks v1 v2, fun _ => lw_621 hK h01 hok hs hks v1, fun _ => lw_676 hK h01 hok hs hks v1 v2 v3 v4, fun _ => lw_767 hK h01 hok hs hks v1, fun _ => lw_822 hK h01 hok hs hks, fun _ => lw_835 hK h01 hok hs hks⟩⟩
  exact key 512 0 (by omega) _ _ _ _ _ _ _ _ _ _ _ _ _ _ _ _ _ _ _ _ _ _ _ _ _ _ _ _ _ _ _ _ _ _ _ _ _ _ _ ⟨rfl, rfl, rfl, Or.inl rfl, 0, rfl, rfl, ⟨by omega, fun e l he => by omega⟩, fun q => absurd rfl q, fun q => absurd rfl q⟩
