/-! The matrix at the start: some rows, and unit rows behind them; bounds between the rows' coming. -/
def pr_Mat (w : Nat) (M : Nat → Nat → Int) : Prop :=
  w ≤ 4 ∧ (∀ i, i < 4 → M i (w + i) = 1) ∧ (∀ i j, i < 4 → w ≤ j → j < 8 → j ≠ w + i → M i j = 0) ∧ (∀ i j, i < 4 → j < 8 → (M i j).natAbs ≤ 750) ∧ (∀ a b c, a < 8 → b < 8 → c < 8 → (pr_D M a b c (w + 3)).natAbs ≤ 750)
theorem pr_unit {w : Nat} {M : Nat → Nat → Int} (h : pr_Mat w M) : pr_D M w (w + 1) (w + 2) (w + 3) = 1 := by
  obtain ⟨h1, h2, h3, -, -⟩ := h
  have a0 := h2 0 (by omega); have a1 := h2 1 (by omega); have a2 := h2 2 (by omega); have a3 := h2 3 (by omega)
  have z : ∀ i j, i < 4 → j < 4 → j ≠ i → M i (w + j) = 0 := fun i j hi hj hne => h3 i (w + j) hi (by omega) (by omega) (by omega)
  have a0 : M 0 w = 1 := a0
  have z10 : M 1 w = 0 := z 1 0 (by omega) (by omega) (by omega)
  have z20 : M 2 w = 0 := z 2 0 (by omega) (by omega) (by omega)
  have z30 : M 3 w = 0 := z 3 0 (by omega) (by omega) (by omega)
  simp [pr_D, hn_d4, hn_d3, hn_d2, a0, a1, a2, a3, z10, z20, z30, z 0 1 (by omega) (by omega) (by omega), z 0 2 (by omega) (by omega) (by omega), z 0 3 (by omega) (by omega) (by omega), z 1 2 (by omega) (by omega) (by omega), z 1 3 (by omega) (by omega) (by omega), z 2 1 (by omega) (by omega) (by omega), z 2 3 (by omega) (by omega) (by omega), z 3 1 (by omega) (by omega) (by omega), z 3 2 (by omega) (by omega) (by omega)]
/-- t rows have been taken in -/
def pr_Got (n w t : Nat) (M : Nat → Nat → Int) (p : Nat → Nat) (Z : Nat → Nat → Int) : Prop :=
  hn_Base n t p Z ∧ (∀ i, t ≤ i → Z i = M i) ∧ (∀ k, t ≤ k → hn_Same 8 k M Z) ∧ pr_Det M Z
/-- the unit columns of rows that have not come are 0 -/
theorem pr_got0 {n w t : Nat} {M : Nat → Nat → Int} {p : Nat → Nat} {Z : Nat → Nat → Int} (hM : pr_Mat w M) (ht : t ≤ 4) (h : pr_Got n w t M p Z) {i j : Nat} (hi : i < t) (hj : t ≤ j) (hj4 : j < 4) : Z i (w + j) = 0 := by
  obtain ⟨e, he⟩ := (h.2.2.1 t (Nat.le_refl _)).1 i hi
  have := hM.1
  rw [he (w + j) (by omega)]
  exact hn_sum_zero (fun k hk => by rw [hM.2.2.1 k (w + j) (by omega) (by omega) (by omega) (by omega), Int.mul_zero])
theorem pr_dv {x : Int} {k : Nat} {B : Nat} (hk : 1 ≤ k) (h : x.natAbs * k ≤ B * k) : x.natAbs ≤ B := Nat.le_of_mul_le_mul_right h hk
theorem pr_start1 {n w : Nat} {M : Nat → Nat → Int} {p : Nat → Nat} {Z : Nat → Nat → Int} (hn : n ≤ 8) (hM : pr_Mat w M) (h : pr_Got n w 1 M p Z) : ∃ T, pr_Start n 1 p T Z := by
  have hw := hM.1
  have z1 := pr_got0 hM (by omega) h (i := 0) (j := 1) (by omega) (by omega) (by omega)
  have z2 := pr_got0 hM (by omega) h (i := 0) (j := 2) (by omega) (by omega) (by omega)
  have z3 := pr_got0 hM (by omega) h (i := 0) (j := 3) (by omega) (by omega) (by omega)
  have u1 := hM.2.1 1 (by omega); have u2 := hM.2.1 2 (by omega); have u3 := hM.2.1 3 (by omega)
  have y12 := hM.2.2.1 1 (w + 2) (by omega) (by omega) (by omega) (by omega)
  have y13 := hM.2.2.1 1 (w + 3) (by omega) (by omega) (by omega) (by omega)
  have y21 := hM.2.2.1 2 (w + 1) (by omega) (by omega) (by omega) (by omega)
  have y23 := hM.2.2.1 2 (w + 3) (by omega) (by omega) (by omega) (by omega)
  have y31 := hM.2.2.1 3 (w + 1) (by omega) (by omega) (by omega) (by omega)
  have y32 := hM.2.2.1 3 (w + 2) (by omega) (by omega) (by omega) (by omega)
  have m1 := h.2.1 1 (by omega); have m2 := h.2.1 2 (by omega); have m3 := h.2.1 3 (by omega)
  have key : ∀ j, j < 8 → (Z 0 j).natAbs ≤ 750 := by
    intro j hj
    have e1 := h.2.2.2 j (w + 1) (w + 2) (w + 3)
    have e2 := hM.2.2.2.2 j (w + 1) (w + 2) hj (by omega) (by omega)
    have e3 : pr_D Z j (w + 1) (w + 2) (w + 3) = Z 0 j := by
      simp [pr_D, hn_d4, hn_d3, hn_d2, m1, m2, m3, z1, z2, z3, u1, u2, u3, y12, y13, y21, y23, y31, y32]
    rw [e3] at e1; omega
  refine ⟨fun l => if l = 0 then (Z 0 (p 0)).natAbs else 1, hn, by omega, h.1, fun l j hl hj => ?_, fun j hj => ?_, fun l hl => ?_, by simp, ?_⟩
  · rw [show l = 0 by omega]; have := key j (by omega); omega
  · rw [m1]; exact hM.2.2.2.1 1 j (by omega) (by omega)
  · rw [show l = 0 by omega]; simp
  · have := key (p 0) (by have := h.1.1 0 (by omega); omega)
    simpa using this
set_option maxHeartbeats 1000000 in
theorem pr_start2 {n w : Nat} {M : Nat → Nat → Int} {p : Nat → Nat} {Z : Nat → Nat → Int} (hn : n ≤ 8) (hM : pr_Mat w M) (h : pr_Got n w 2 M p Z) : ∃ T, pr_Start n 2 p T Z := by
  have hw := hM.1
  have z02 := pr_got0 hM (by omega) h (i := 0) (j := 2) (by omega) (by omega) (by omega)
  have z03 := pr_got0 hM (by omega) h (i := 0) (j := 3) (by omega) (by omega) (by omega)
  have z12 := pr_got0 hM (by omega) h (i := 1) (j := 2) (by omega) (by omega) (by omega)
  have z13 := pr_got0 hM (by omega) h (i := 1) (j := 3) (by omega) (by omega) (by omega)
  have u2 := hM.2.1 2 (by omega); have u3 := hM.2.1 3 (by omega)
  have y23 := hM.2.2.1 2 (w + 3) (by omega) (by omega) (by omega) (by omega)
  have y32 := hM.2.2.1 3 (w + 2) (by omega) (by omega) (by omega) (by omega)
  have m2 := h.2.1 2 (by omega); have m3 := h.2.1 3 (by omega)
  have b0 := h.1.1 0 (by omega); have b1 := h.1.1 1 (by omega)
  have pp := h.1.2.1 0 1 (by omega) (by omega)
  have q10 : Z 1 (p 0) = 0 := h.1.2.2.1 1 (p 0) (by omega) pp
  have a0 := h.1.2.2.2.1 0 (by omega); have a1 := h.1.2.2.2.1 1 (by omega)
  have r01 := h.1.2.2.2.2 0 1 (by omega) (by omega)
  have D : ∀ a b, a < 8 → b < 8 → (Z 0 a * Z 1 b - Z 0 b * Z 1 a).natAbs ≤ 750 := by
    intro a b ha hb
    have e1 := h.2.2.2 a b (w + 2) (w + 3)
    have e2 := hM.2.2.2.2 a b (w + 2) ha hb (by omega)
    have e3 : pr_D Z a b (w + 2) (w + 3) = Z 0 a * Z 1 b - Z 0 b * Z 1 a := by
      simp [pr_D, hn_d4, hn_d3, hn_d2, m2, m3, z02, z03, z12, z13, u2, u3, y23, y32]
    rw [e3] at e1; omega
  have hP : (Z 0 (p 0)).natAbs * (Z 1 (p 1)).natAbs ≤ 750 := by
    have := D (p 0) (p 1) (by omega) (by omega)
    rw [q10, Int.mul_zero, Int.sub_zero, Int.natAbs_mul] at this
    exact this
  have k1 : ∀ j, j < 8 → (Z 1 j).natAbs ≤ 750 := by
    intro j hj
    have := D (p 0) j (by omega) hj
    rw [q10, Int.mul_zero, Int.sub_zero, Int.natAbs_mul] at this
    have e : 1 * (Z 1 j).natAbs ≤ (Z 0 (p 0)).natAbs * (Z 1 j).natAbs := Nat.mul_le_mul_right _ (by omega)
    omega
  have k0 : ∀ j, j < 8 → (Z 0 j).natAbs ≤ 1500 := by
    intro j hj
    have e1 := D j (p 1) hj (by omega)
    have e2 := k1 j hj
    have e3 : (Z 0 (p 1) * Z 1 j).natAbs ≤ (Z 1 (p 1)).natAbs * 750 := by
      rw [Int.natAbs_mul]; exact Nat.mul_le_mul (by omega) e2
    have e4 : (Z 0 j * Z 1 (p 1)).natAbs ≤ 750 + (Z 1 (p 1)).natAbs * 750 := by omega
    rw [Int.natAbs_mul] at e4
    refine pr_dv (k := (Z 1 (p 1)).natAbs) (by omega) ?_
    have e5 : 1 * 750 ≤ (Z 1 (p 1)).natAbs * 750 := Nat.mul_le_mul_right _ (by omega)
    omega
  refine ⟨fun l => if l = 0 then (Z 0 (p 0)).natAbs * (Z 1 (p 1)).natAbs else if l = 1 then (Z 1 (p 1)).natAbs else 1, hn, by omega, h.1, fun l j hl hj => ?_, fun j hj => ?_, fun l hl => ?_, by simp, by simpa using hP⟩
  · rcases (show l = 0 ∨ l = 1 by omega) with rfl | rfl
    · have := k0 j (by omega); omega
    · have := k1 j (by omega); omega
  · rw [m2]; exact hM.2.2.2.1 2 j (by omega) (by omega)
  · rcases (show l = 0 ∨ l = 1 by omega) with rfl | rfl <;> simp
set_option maxHeartbeats 1000000 in
theorem pr_start3 {n w : Nat} {M : Nat → Nat → Int} {p : Nat → Nat} {Z : Nat → Nat → Int} (hn : n ≤ 8) (hM : pr_Mat w M) (h : pr_Got n w 3 M p Z) : ∃ T, pr_Start n 3 p T Z := by
  have hw := hM.1
  have z03 := pr_got0 hM (by omega) h (i := 0) (j := 3) (by omega) (by omega) (by omega)
  have z13 := pr_got0 hM (by omega) h (i := 1) (j := 3) (by omega) (by omega) (by omega)
  have z23 := pr_got0 hM (by omega) h (i := 2) (j := 3) (by omega) (by omega) (by omega)
  have u3 := hM.2.1 3 (by omega)
  have m3 := h.2.1 3 (by omega)
  have b0 := h.1.1 0 (by omega); have b1 := h.1.1 1 (by omega); have b2 := h.1.1 2 (by omega)
  have p01 := h.1.2.1 0 1 (by omega) (by omega); have p12 := h.1.2.1 1 2 (by omega) (by omega)
  have q10 : Z 1 (p 0) = 0 := h.1.2.2.1 1 (p 0) (by omega) p01
  have q20 : Z 2 (p 0) = 0 := h.1.2.2.1 2 (p 0) (by omega) (by omega)
  have q21 : Z 2 (p 1) = 0 := h.1.2.2.1 2 (p 1) (by omega) p12
  have a0 := h.1.2.2.2.1 0 (by omega); have a1 := h.1.2.2.2.1 1 (by omega); have a2 := h.1.2.2.2.1 2 (by omega)
  have r01 := h.1.2.2.2.2 0 1 (by omega) (by omega); have r02 := h.1.2.2.2.2 0 2 (by omega) (by omega); have r12 := h.1.2.2.2.2 1 2 (by omega) (by omega)
  have D : ∀ a b c, a < 8 → b < 8 → c < 8 → (Z 0 a * (Z 1 b * Z 2 c - Z 1 c * Z 2 b) - Z 0 b * (Z 1 a * Z 2 c - Z 1 c * Z 2 a) + Z 0 c * (Z 1 a * Z 2 b - Z 1 b * Z 2 a)).natAbs ≤ 750 := by
    intro a b c ha hb hc
    have e1 := h.2.2.2 a b c (w + 3)
    have e2 := hM.2.2.2.2 a b c ha hb hc
    have e3 : pr_D Z a b c (w + 3) = Z 0 a * (Z 1 b * Z 2 c - Z 1 c * Z 2 b) - Z 0 b * (Z 1 a * Z 2 c - Z 1 c * Z 2 a) + Z 0 c * (Z 1 a * Z 2 b - Z 1 b * Z 2 a) := by
      simp [pr_D, hn_d4, hn_d3, hn_d2, m3, z03, z13, z23, u3]
    rw [e3] at e1; omega
  have hP : (Z 0 (p 0)).natAbs * ((Z 1 (p 1)).natAbs * (Z 2 (p 2)).natAbs) ≤ 750 := by
    have := D (p 0) (p 1) (p 2) (by omega) (by omega) (by omega)
    rw [q10, q20, q21] at this
    simp only [Int.mul_zero, Int.zero_mul, Int.sub_zero, Int.add_zero, Int.natAbs_mul] at this
    exact this
  have k2 : ∀ j, j < 8 → (Z 2 j).natAbs ≤ 750 := by
    intro j hj
    have := D (p 0) (p 1) j (by omega) (by omega) hj
    rw [q10, q20, q21] at this
    simp only [Int.mul_zero, Int.zero_mul, Int.sub_zero, Int.add_zero, Int.natAbs_mul] at this
    have e : 1 * (1 * (Z 2 j).natAbs) ≤ (Z 0 (p 0)).natAbs * ((Z 1 (p 1)).natAbs * (Z 2 j).natAbs) := Nat.mul_le_mul (by omega) (Nat.mul_le_mul_right _ (by omega))
    omega
  have k1' : ∀ j, j < 8 → (Z 1 j * Z 2 (p 2) - Z 1 (p 2) * Z 2 j).natAbs ≤ 750 := by
    intro j hj
    have := D (p 0) j (p 2) (by omega) hj (by omega)
    rw [q10, q20] at this
    simp only [Int.mul_zero, Int.zero_mul, Int.sub_zero, Int.sub_self, Int.add_zero, Int.natAbs_mul] at this
    have e : 1 * (Z 1 j * Z 2 (p 2) - Z 1 (p 2) * Z 2 j).natAbs ≤ (Z 0 (p 0)).natAbs * (Z 1 j * Z 2 (p 2) - Z 1 (p 2) * Z 2 j).natAbs := Nat.mul_le_mul_right _ (by omega)
    omega
  have k1 : ∀ j, j < 8 → (Z 1 j).natAbs ≤ 1500 := by
    intro j hj
    have e1 := k1' j hj
    have e2 := k2 j hj
    have e3 : (Z 1 (p 2) * Z 2 j).natAbs ≤ (Z 2 (p 2)).natAbs * 750 := by
      rw [Int.natAbs_mul]; exact Nat.mul_le_mul (by omega) e2
    have e4 : (Z 1 j * Z 2 (p 2)).natAbs ≤ 750 + (Z 2 (p 2)).natAbs * 750 := by omega
    rw [Int.natAbs_mul] at e4
    refine pr_dv (k := (Z 2 (p 2)).natAbs) (by omega) ?_
    have e5 : 1 * 750 ≤ (Z 2 (p 2)).natAbs * 750 := Nat.mul_le_mul_right _ (by omega)
    omega
  have k0 : ∀ j, j < 8 → (Z 0 j).natAbs ≤ 3750 := by
    intro j hj
    have e1 := D j (p 1) (p 2) hj (by omega) (by omega)
    rw [q21, Int.mul_zero, Int.sub_zero] at e1
    have e2 := k2 j hj
    have e3 := k1' j hj
    have t1 : (Z 0 (p 1) * (Z 1 j * Z 2 (p 2) - Z 1 (p 2) * Z 2 j)).natAbs ≤ (Z 1 (p 1)).natAbs * 750 := by
      rw [Int.natAbs_mul]; exact Nat.mul_le_mul (by omega) e3
    have t2 : (Z 0 (p 2) * (Z 1 j * 0 - Z 1 (p 1) * Z 2 j)).natAbs ≤ (Z 2 (p 2)).natAbs * ((Z 1 (p 1)).natAbs * 750) := by
      rw [Int.mul_zero, Int.zero_sub, Int.natAbs_mul, Int.natAbs_neg, Int.natAbs_mul]
      exact Nat.mul_le_mul (by omega) (Nat.mul_le_mul_left _ e2)
    have e4 : (Z 0 j * (Z 1 (p 1) * Z 2 (p 2))).natAbs ≤ 750 + (Z 1 (p 1)).natAbs * 750 + (Z 2 (p 2)).natAbs * ((Z 1 (p 1)).natAbs * 750) := by
      rw [q21] at *
      omega
    rw [Int.natAbs_mul, Int.natAbs_mul] at e4
    have hx : 1 ≤ (Z 1 (p 1)).natAbs * (Z 2 (p 2)).natAbs := by
      have : 1 * 1 ≤ (Z 1 (p 1)).natAbs * (Z 2 (p 2)).natAbs := Nat.mul_le_mul (by omega) (by omega)
      omega
    refine pr_dv (k := (Z 1 (p 1)).natAbs * (Z 2 (p 2)).natAbs) hx ?_
    have f1 : (Z 1 (p 1)).natAbs * 1 ≤ (Z 1 (p 1)).natAbs * (Z 2 (p 2)).natAbs := Nat.mul_le_mul_left _ (by omega)
    have f2 : (Z 2 (p 2)).natAbs * ((Z 1 (p 1)).natAbs * 750) = 750 * ((Z 1 (p 1)).natAbs * (Z 2 (p 2)).natAbs) := by grind
    omega
  refine ⟨fun l => if l = 0 then (Z 0 (p 0)).natAbs * ((Z 1 (p 1)).natAbs * (Z 2 (p 2)).natAbs) else if l = 1 then (Z 1 (p 1)).natAbs * (Z 2 (p 2)).natAbs else if l = 2 then (Z 2 (p 2)).natAbs else 1, hn, by omega, h.1, fun l j hl hj => ?_, fun j hj => ?_, fun l hl => ?_, by simp, by simpa using hP⟩
  · rcases (show l = 0 ∨ l = 1 ∨ l = 2 by omega) with rfl | rfl | rfl
    · exact k0 j (by omega)
    · have := k1 j (by omega); omega
    · have := k2 j (by omega); omega
  · rw [m3]; exact hM.2.2.2.1 3 j (by omega) (by omega)
  · rcases (show l = 0 ∨ l = 1 ∨ l = 2 by omega) with rfl | rfl | rfl <;> simp
theorem pr_start {n w t : Nat} {M : Nat → Nat → Int} {p : Nat → Nat} {Z : Nat → Nat → Int} (hn : n ≤ 8) (ht : t ≤ 3) (hM : pr_Mat w M) (h : pr_Got n w t M p Z) : ∃ T, pr_Start n t p T Z := by
  rcases (show t = 0 ∨ t = 1 ∨ t = 2 ∨ t = 3 by omega) with rfl | rfl | rfl | rfl
  · exact ⟨fun _ => 1, hn, by omega, h.1, fun l j hl => by omega, fun j hj => by rw [h.2.1 0 (by omega)]; exact hM.2.2.2.1 0 j (by omega) (by omega), fun l hl => by omega, rfl, (by decide : 1 ≤ 750)⟩
  · exact pr_start1 hn hM h
  · exact pr_start2 hn hM h
  · exact pr_start3 hn hM h
