theorem pr_d3c (u v x : Nat → Int) (a b c : Nat) : hn_d3 u v x b c a = hn_d3 u v x a b c := by
  simp only [hn_d3, hn_d2]; grind
theorem pr_d3s (u v x : Nat → Int) (a b c : Nat) : hn_d3 u v x a b c = -hn_d3 u v x b a c := by
  simp only [hn_d3, hn_d2]; grind
theorem pr_tp (Z : Nat → Nat → Int) (a b c : Nat) : hn_d3 (fun j => Z (1 + j) a) (fun j => Z (1 + j) b) (fun j => Z (1 + j) c) 0 1 2 = hn_d3 (Z 1) (Z 2) (Z 3) a b c := by
  show hn_d3 (fun j => Z (1 + j) a) (fun j => Z (1 + j) b) (fun j => Z (1 + j) c) 0 1 2 = _
  simp only [hn_d3, hn_d2]; grind
theorem pr_d3e (u v x : Nat → Int) {a b c : Nat} (h : a = b ∨ b = c ∨ a = c) : hn_d3 u v x a b c = 0 := by
  rcases h with rfl | rfl | rfl <;> (simp only [hn_d3, hn_d2]; grind)
set_option maxHeartbeats 1000000 in
/-- the kernel's rows, turned, with unit columns behind them -/
theorem pr_MatT {w im : Nat} {A Z : Nat → Nat → Int} {p : Nat → Nat} (hw : w ≤ 4) (h : ∀ i j, i < 4 → j < w → (A i j).natAbs ≤ 5) (hG : pr_Got (w + 4) w 4 (pr_M w A) p Z) (him : im ≤ 4) (h1 : ∀ k, k < im → p k < w) (h2 : ∀ k, im ≤ k → k < 4 → w ≤ p k) :
    pr_Mat (4 - im) (pr_M (4 - im) (fun i j => Z (im + j) (w + i))) := by
  obtain ⟨hB, -, -, hD⟩ := hG
  have b0 := hB.1 0 (by omega); have b1 := hB.1 1 (by omega); have b2 := hB.1 2 (by omega); have b3 := hB.1 3 (by omega)
  have p01 := hB.2.1 0 1 (by omega) (by omega); have p12 := hB.2.1 1 2 (by omega) (by omega); have p23 := hB.2.1 2 3 (by omega) (by omega)
  have q10 : Z 1 (p 0) = 0 := hB.2.2.1 1 (p 0) (by omega) p01
  have q20 : Z 2 (p 0) = 0 := hB.2.2.1 2 (p 0) (by omega) (by omega)
  have q30 : Z 3 (p 0) = 0 := hB.2.2.1 3 (p 0) (by omega) (by omega)
  have q21 : Z 2 (p 1) = 0 := hB.2.2.1 2 (p 1) (by omega) p12
  have q31 : Z 3 (p 1) = 0 := hB.2.2.1 3 (p 1) (by omega) (by omega)
  have q32 : Z 3 (p 2) = 0 := hB.2.2.1 3 (p 2) (by omega) (by omega)
  have a0 := hB.2.2.2.1 0 (by omega); have a1 := hB.2.2.2.1 1 (by omega); have a2 := hB.2.2.2.1 2 (by omega); have a3 := hB.2.2.2.1 3 (by omega)
  have r01 := hB.2.2.2.2 0 1 (by omega) (by omega); have r02 := hB.2.2.2.2 0 2 (by omega) (by omega); have r03 := hB.2.2.2.2 0 3 (by omega) (by omega); have r12 := hB.2.2.2.2 1 2 (by omega) (by omega); have r13 := hB.2.2.2.2 1 3 (by omega) (by omega); have r23 := hB.2.2.2.2 2 3 (by omega) (by omega)
  rcases (show im = 0 ∨ im = 1 ∨ im = 2 ∨ im = 3 ∨ im = 4 by omega) with rfl | rfl | rfl | rfl | rfl
  · -- no rows ahead: the unit matrix
    have w0 := h2 0 (by omega) (by omega)
    have s0 : p 0 = w + 0 := by omega
    have s1 : p 1 = w + 1 := by omega
    have s2 : p 2 = w + 2 := by omega
    have s3 : p 3 = w + 3 := by omega
    have d := hD (p 0) (p 1) (p 2) (p 3)
    have e := pr_DM0 (w := w) (A := A) (a := 0) (b := 1) (c := 2) (i := 3) (by omega)
    rw [← s0, ← s1, ← s2, ← s3, ← d] at e
    have e3 : pr_D Z (p 0) (p 1) (p 2) (p 3) = Z 0 (p 0) * (Z 1 (p 1) * (Z 2 (p 2) * Z 3 (p 3))) := by
      simp [pr_D, hn_d4, hn_d3, hn_d2, q10, q20, q30, q21, q31, q32]
    rw [e3] at e
    have f0 : Z 0 (p 0) ∣ (1 : Int) := by
      have hx : (Z 0 (p 0) * (Z 1 (p 1) * (Z 2 (p 2) * Z 3 (p 3)))) = 1 := by
        have : 0 < Z 0 (p 0) * (Z 1 (p 1) * (Z 2 (p 2) * Z 3 (p 3))) := Int.mul_pos a0 (Int.mul_pos a1 (Int.mul_pos a2 a3))
        omega
      exact ⟨_, hx.symm⟩
    rw [Int.natAbs_mul, Int.natAbs_mul, Int.natAbs_mul] at e
    have g1 := pr_pos2 a0 e
    have g2 := pr_pos2 a1 g1
    have g3 := pr_pos2 a2 g2
    have g3' : (Z 2 (p 2)).natAbs ≤ 1 := pr_pos2 a3 (by rw [Nat.mul_comm]; exact g2)
    have x23 : 1 ≤ (Z 2 (p 2)).natAbs * (Z 3 (p 3)).natAbs := Nat.mul_pos (by omega) (by omega)
    have g1' : (Z 1 (p 1)).natAbs ≤ 1 := by
      have : (Z 1 (p 1)).natAbs * 1 ≤ (Z 1 (p 1)).natAbs * ((Z 2 (p 2)).natAbs * (Z 3 (p 3)).natAbs) := Nat.mul_le_mul_left _ x23
      omega
    have g0' : Z 0 (p 0) ≤ 1 := Int.le_of_dvd (by decide) f0
    have hs : ∀ i, i < 4 → w + i = p i := by
      intro i hi
      rcases (show i = 0 ∨ i = 1 ∨ i = 2 ∨ i = 3 by omega) with rfl | rfl | rfl | rfl
      · exact s0.symm
      · exact s1.symm
      · exact s2.symm
      · exact s3.symm
    clear hD hB e e3 f0 d
    refine pr_MatA (by omega) (fun i j hi hj => ?_)
    show (Z (0 + j) (w + i)).natAbs ≤ 5
    rw [Nat.zero_add, hs i hi]
    rcases (show i = 0 ∨ i = 1 ∨ i = 2 ∨ i = 3 by omega) with rfl | rfl | rfl | rfl <;> rcases (show j = 0 ∨ j = 1 ∨ j = 2 ∨ j = 3 by omega) with rfl | rfl | rfl | rfl <;> omega
  · -- one row ahead
    have w0 := h1 0 (by omega)
    have w1 := h2 1 (by omega) (by omega)
    have D : ∀ a b c, a < 4 → b < 4 → c < 4 → (hn_d3 (Z 1) (Z 2) (Z 3) (w + a) (w + b) (w + c)).natAbs ≤ 5 := by
      intro a b c ha hb hc
      have d := hD (p 0) (w + a) (w + b) (w + c)
      have e := pr_DM1 h (a := p 0) (b := a) (c := b) (i := c) w0 hc
      rw [← d, show pr_D Z (p 0) (w + a) (w + b) (w + c) = Z 0 (p 0) * hn_d3 (Z 1) (Z 2) (Z 3) (w + a) (w + b) (w + c) by simp [pr_D, hn_d4, hn_d3, hn_d2, q10, q20, q30], Int.natAbs_mul] at e
      exact pr_pos2 a0 e
    have E := pr_three (u := Z 1) (v := Z 2) (x := Z 3) (P := p 1) (Q := p 2) (R := p 3) (β := 5) (S := fun j => w ≤ j ∧ j < w + 4) ⟨by omega, by omega⟩ ⟨by omega, by omega⟩ ⟨by omega, by omega⟩ a1 a2 a3 q21 q31 q32 r12 r13 r23 (fun a b c ha hb hc => by
      have := D (a - w) (b - w) (c - w) (by omega) (by omega) (by omega)
      rw [show w + (a - w) = a by omega, show w + (b - w) = b by omega, show w + (c - w) = c by omega] at this
      exact this)
    have E' : ∀ i j, i < 4 → j < 3 → (Z (1 + j) (w + i)).natAbs ≤ (if j = 0 then 25 else 10) := by
      intro i j hi hj
      have := E (w + i) ⟨by omega, by omega⟩
      rcases (show j = 0 ∨ j = 1 ∨ j = 2 by omega) with rfl | rfl | rfl <;> simp <;> omega
    refine pr_MatK (by omega) (fun i j hi hj => ?_) (fun i k a b hi hk ha hb => ?_) (fun a b c ha hb hc => ?_)
    · have := E' i j hi hj
      show (Z (1 + j) (w + i)).natAbs ≤ 750
      split at this <;> omega
    · show (Z (1 + a) (w + i) * Z (1 + b) (w + k) - Z (1 + b) (w + i) * Z (1 + a) (w + k)).natAbs ≤ 750
      by_cases e : a = b
      · subst e
        rw [show Z (1 + a) (w + i) * Z (1 + a) (w + k) - Z (1 + a) (w + i) * Z (1 + a) (w + k) = 0 by omega]; decide
      · have t1 := E' i a (by omega) (by omega); have t2 := E' k b (by omega) (by omega); have t3 := E' i b (by omega) (by omega); have t4 := E' k a (by omega) (by omega)
        have m1 : (Z (1 + a) (w + i) * Z (1 + b) (w + k)).natAbs ≤ 250 := by
          rw [Int.natAbs_mul]
          by_cases e0 : a = 0
          · exact Nat.le_trans (Nat.mul_le_mul (n₂ := 25) (m₂ := 10) (by split at t1 <;> omega) (by rw [if_neg (by omega)] at t2; exact t2)) (by decide)
          · exact Nat.le_trans (Nat.mul_le_mul (n₂ := 10) (m₂ := 25) (by rw [if_neg e0] at t1; exact t1) (by split at t2 <;> omega)) (by decide)
        have m2 : (Z (1 + b) (w + i) * Z (1 + a) (w + k)).natAbs ≤ 250 := by
          rw [Int.natAbs_mul]
          by_cases e0 : a = 0
          · exact Nat.le_trans (Nat.mul_le_mul (n₂ := 10) (m₂ := 25) (by rw [if_neg (by omega)] at t3; exact t3) (by split at t4 <;> omega)) (by decide)
          · exact Nat.le_trans (Nat.mul_le_mul (n₂ := 25) (m₂ := 10) (by split at t3 <;> omega) (by rw [if_neg e0] at t4; exact t4)) (by decide)
        omega
    · -- three of three: turned, the same determinant
      have key : ∀ x y z, x < 3 → y < 3 → z < 3 → x ≠ y → y ≠ z → x ≠ z → (hn_d3 (fun j => Z (1 + j) (w + 0)) (fun j => Z (1 + j) (w + 1)) (fun j => Z (1 + j) (w + 2)) x y z).natAbs = (hn_d3 (Z 1) (Z 2) (Z 3) (w + 0) (w + 1) (w + 2)).natAbs := by
        intro x y z hx hy hz n1 n2 n3
        have t : hn_d3 (fun j => Z (1 + j) (w + 0)) (fun j => Z (1 + j) (w + 1)) (fun j => Z (1 + j) (w + 2)) x y z = hn_d3 (Z 1) (Z 2) (Z 3) (w + 0) (w + 1) (w + 2) ∨ hn_d3 (fun j => Z (1 + j) (w + 0)) (fun j => Z (1 + j) (w + 1)) (fun j => Z (1 + j) (w + 2)) x y z = -hn_d3 (Z 1) (Z 2) (Z 3) (w + 0) (w + 1) (w + 2) := by
          rcases (show (x = 0 ∧ y = 1 ∧ z = 2) ∨ (x = 1 ∧ y = 2 ∧ z = 0) ∨ (x = 2 ∧ y = 0 ∧ z = 1) ∨ (x = 1 ∧ y = 0 ∧ z = 2) ∨ (x = 0 ∧ y = 2 ∧ z = 1) ∨ (x = 2 ∧ y = 1 ∧ z = 0) by omega) with ⟨rfl, rfl, rfl⟩ | ⟨rfl, rfl, rfl⟩ | ⟨rfl, rfl, rfl⟩ | ⟨rfl, rfl, rfl⟩ | ⟨rfl, rfl, rfl⟩ | ⟨rfl, rfl, rfl⟩
          · exact Or.inl (pr_tp ..)
          · exact Or.inl ((pr_d3c _ _ _ 0 1 2).trans (pr_tp ..))
          · exact Or.inl ((pr_d3c _ _ _ 1 2 0).trans ((pr_d3c _ _ _ 0 1 2).trans (pr_tp ..)))
          · exact Or.inr (by rw [pr_d3s _ _ _ 1 0 2, pr_tp])
          · exact Or.inr (by rw [pr_d3s _ _ _ 0 2 1, pr_d3c _ _ _ 1 2 0, pr_d3c _ _ _ 0 1 2, pr_tp])
          · exact Or.inr (by rw [pr_d3s _ _ _ 2 1 0, pr_d3c _ _ _ 0 1 2, pr_tp])
        rcases t with e | e <;> rw [e]
        rw [Int.natAbs_neg]
      by_cases hne : a ≠ b ∧ b ≠ c ∧ a ≠ c
      · have := key a b c ha hb hc hne.1 hne.2.1 hne.2.2
        have d := D 0 1 2 (by omega) (by omega) (by omega)
        rw [← this] at d
        exact Nat.le_trans d (by decide)
      · have : hn_d3 (fun j => Z (1 + j) (w + 0)) (fun j => Z (1 + j) (w + 1)) (fun j => Z (1 + j) (w + 2)) a b c = 0 := pr_d3e _ _ _ (by omega)
        show (hn_d3 (fun j => Z (1 + j) (w + 0)) (fun j => Z (1 + j) (w + 1)) (fun j => Z (1 + j) (w + 2)) a b c).natAbs ≤ 750
        rw [this]; decide
  · -- two rows ahead
    have w0 := h1 0 (by omega); have w1 := h1 1 (by omega)
    have w2 := h2 2 (by omega) (by omega)
    have D : ∀ a b, a < 4 → b < 4 → (hn_d2 (Z 2) (Z 3) (w + a) (w + b)).natAbs ≤ 50 := by
      intro a b ha hb
      have d := hD (p 0) (p 1) (w + a) (w + b)
      have e := pr_DM2 h (a := p 0) (b := p 1) (c := a) (i := b) w0 w1 hb
      rw [← d, show pr_D Z (p 0) (p 1) (w + a) (w + b) = Z 0 (p 0) * (Z 1 (p 1) * hn_d2 (Z 2) (Z 3) (w + a) (w + b)) by simp [pr_D, hn_d4, hn_d3, hn_d2, q10, q20, q30, q21, q31], Int.natAbs_mul, Int.natAbs_mul] at e
      exact pr_pos2 a1 (pr_pos2 a0 e)
    have E := pr_two (u := Z 2) (v := Z 3) (P := p 2) (Q := p 3) (β := 50) (S := fun j => w ≤ j ∧ j < w + 4) ⟨by omega, by omega⟩ ⟨by omega, by omega⟩ a2 a3 q32 r23 (fun a b ha hb => by
      have := D (a - w) (b - w) (by omega) (by omega)
      rw [show w + (a - w) = a by omega, show w + (b - w) = b by omega] at this
      exact this)
    refine pr_MatK (by omega) (fun i j hi hj => ?_) (fun i k a b hi hk ha hb => ?_) (fun a b c ha hb hc => ?_)
    · have := E (w + i) ⟨by omega, by omega⟩
      show (Z (2 + j) (w + i)).natAbs ≤ 750
      rcases (show j = 0 ∨ j = 1 by omega) with rfl | rfl <;> simp <;> omega
    · show (Z (2 + a) (w + i) * Z (2 + b) (w + k) - Z (2 + b) (w + i) * Z (2 + a) (w + k)).natAbs ≤ 750
      have d := D i k (by omega) (by omega)
      unfold hn_d2 at d
      rcases (show a = 0 ∨ a = 1 by omega) with rfl | rfl <;> rcases (show b = 0 ∨ b = 1 by omega) with rfl | rfl
      · rw [Int.sub_self]; decide
      · show (Z 2 (w + i) * Z 3 (w + k) - Z 3 (w + i) * Z 2 (w + k)).natAbs ≤ 750
        rw [Int.mul_comm (Z 3 (w + i))]; omega
      · show (Z 3 (w + i) * Z 2 (w + k) - Z 2 (w + i) * Z 3 (w + k)).natAbs ≤ 750
        rw [Int.mul_comm (Z 3 (w + i))]; omega
      · rw [Int.sub_self]; decide
    · have : hn_d3 (fun j => Z (2 + j) (w + 0)) (fun j => Z (2 + j) (w + 1)) (fun j => Z (2 + j) (w + 2)) a b c = 0 := pr_d3e _ _ _ (by omega)
      show (hn_d3 (fun j => Z (2 + j) (w + 0)) (fun j => Z (2 + j) (w + 1)) (fun j => Z (2 + j) (w + 2)) a b c).natAbs ≤ 750
      rw [this]; decide
  · -- three rows ahead
    have w0 := h1 0 (by omega); have w1 := h1 1 (by omega); have w2 := h1 2 (by omega)
    refine pr_MatK (by omega) (fun i j hi hj => ?_) (fun i k a b hi hk ha hb => ?_) (fun a b c ha hb hc => ?_)
    · show (Z (3 + j) (w + i)).natAbs ≤ 750
      rw [show 3 + j = 3 by omega]
      have d := hD (p 0) (p 1) (p 2) (w + i)
      have e := pr_DM3 h (a := p 0) (b := p 1) (c := p 2) (i := i) w0 w1 w2 hi
      rw [← d, show pr_D Z (p 0) (p 1) (p 2) (w + i) = Z 0 (p 0) * (Z 1 (p 1) * (Z 2 (p 2) * Z 3 (w + i))) by simp [pr_D, hn_d4, hn_d3, hn_d2, q10, q20, q30, q21, q31, q32], Int.natAbs_mul, Int.natAbs_mul, Int.natAbs_mul] at e
      exact pr_pos2 a2 (pr_pos2 a1 (pr_pos2 a0 e))
    · rw [show a = 0 by omega, show b = 0 by omega, Int.sub_self]; decide
    · rw [show a = 0 by omega, show b = 0 by omega, show c = 0 by omega]
      have : ∀ u v x : Nat → Int, hn_d3 u v x 0 0 0 = 0 := fun u v x => pr_d3e u v x (Or.inl rfl)
      rw [this]; decide
  · exact pr_MatK (by omega) (fun i j hi hj => by omega) (fun i k a b hi hk ha hb => by omega) (fun a b c ha hb hc => by omega)
