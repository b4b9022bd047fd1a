/-! How large the group's rows are, and how a row is found in it. -/
theorem fb_mul4 {a b c d : Int} {N : Nat} (ha : 0 < a) (hb : 0 < b) (hc : 0 < c) (hd : 0 < d) (h : (a * (b * (c * d))).natAbs ≤ N) : a.natAbs ≤ N ∧ b.natAbs ≤ N ∧ c.natAbs ≤ N ∧ d.natAbs ≤ N := by
  rw [Int.natAbs_mul, Int.natAbs_mul, Int.natAbs_mul] at h
  have h1 : b.natAbs * (c.natAbs * d.natAbs) ≤ N := pr_pos2 ha h
  have h2 : c.natAbs * d.natAbs ≤ N := pr_pos2 hb h1
  have h3 : d.natAbs ≤ N := pr_pos2 hc h2
  have e : ∀ x y : Nat, 1 ≤ y → x ≤ x * y := fun x y hy => Nat.le_mul_of_pos_right x hy
  have p1 : 1 ≤ d.natAbs := by omega
  have p2 : 1 ≤ c.natAbs * d.natAbs := Nat.mul_pos (by omega) (by omega)
  have p3 : 1 ≤ b.natAbs * (c.natAbs * d.natAbs) := Nat.mul_pos (by omega) p2
  exact ⟨Nat.le_trans (e _ _ p3) h, Nat.le_trans (e _ _ p2) h1, Nat.le_trans (e _ _ p1) h2, h3⟩
theorem fb_ent {n0 ρ : Nat} {ex : Nat → Int32} {p : Nat → Nat} {B : Nat → Nat → Int} (hok : st_ok n0 ex) (hG : hn_Grp 4 n0 (st_X n0 ex) ρ p B) : ρ ≤ 4 ∧ ∀ i j, i < ρ → j < 4 → (B i j).natAbs ≤ 15000 := by
  obtain ⟨q, Z, hZ, hD, hE⟩ := cr_got hok hG
  have hr := hZ.1
  refine ⟨hr, fun i j hi hj => ?_⟩
  rw [hE i j hi hj]
  have h5 : ∀ i j, i < 4 → j < 4 → (st_X n0 ex i j).natAbs ≤ 5 := fun i j _ hj => st_ok5 hok i hj
  have z : ∀ {i j : Nat}, ρ ≤ i → i < 4 → j < 4 → Z i j = 0 := fun h1 h2 h3 => cr_z hZ h1 h2 h3
  obtain ⟨-, hB, lo, hi'⟩ := hZ
  have a0 := hB.2.2.2.1 0 (by omega); have a1 := hB.2.2.2.1 1 (by omega); have a2 := hB.2.2.2.1 2 (by omega); have a3 := hB.2.2.2.1 3 (by omega)
  have b0 := hB.1 0 (by omega); have b1 := hB.1 1 (by omega); have b2 := hB.1 2 (by omega); have b3 := hB.1 3 (by omega)
  have p01 := hB.2.1 0 1 (by omega) (by omega); have p12 := hB.2.1 1 2 (by omega) (by omega); have p23 := hB.2.1 2 3 (by omega) (by omega)
  have q10 : Z 1 (q 0) = 0 := hB.2.2.1 1 (q 0) (by omega) p01
  have q20 : Z 2 (q 0) = 0 := hB.2.2.1 2 (q 0) (by omega) (by omega)
  have q30 : Z 3 (q 0) = 0 := hB.2.2.1 3 (q 0) (by omega) (by omega)
  have q21 : Z 2 (q 1) = 0 := hB.2.2.1 2 (q 1) (by omega) p12
  have q31 : Z 3 (q 1) = 0 := hB.2.2.1 3 (q 1) (by omega) (by omega)
  have q32 : Z 3 (q 2) = 0 := hB.2.2.1 3 (q 2) (by omega) (by omega)
  have r01 := hB.2.2.2.2 0 1 (by omega) (by omega); have r02 := hB.2.2.2.2 0 2 (by omega) (by omega); have r03 := hB.2.2.2.2 0 3 (by omega) (by omega)
  have r12 := hB.2.2.2.2 1 2 (by omega) (by omega); have r13 := hB.2.2.2.2 1 3 (by omega) (by omega); have r23 := hB.2.2.2.2 2 3 (by omega) (by omega)
  rcases (show ρ = 0 ∨ ρ = 1 ∨ ρ = 2 ∨ ρ = 3 ∨ ρ = 4 by omega) with rfl | rfl | rfl | rfl | rfl
  · omega
  · have h1 := hi' 1 (by omega) (by omega)
    have e1 := hD j (q 1) (q 2) (q 3)
    have e2 := pr_DM1 (w := 4) (A := st_X n0 ex) h5 (a := j) (b := q 1 - 4) (c := q 2 - 4) (i := q 3 - 4) hj (by omega)
    rw [show 4 + (q 1 - 4) = q 1 by omega, show 4 + (q 2 - 4) = q 2 by omega, show 4 + (q 3 - 4) = q 3 by omega, ← e1] at e2
    have e3 : pr_D Z j (q 1) (q 2) (q 3) = Z 1 (q 1) * (Z 2 (q 2) * (Z 3 (q 3) * Z 0 j)) := by
      simp [pr_D, hn_d4, hn_d3, hn_d2, q21, q31, q32, z (i := 1) (j := j) (by omega) (by omega) hj, z (i := 2) (j := j) (by omega) (by omega) hj, z (i := 3) (j := j) (by omega) (by omega) hj]
      grind
    rw [e3, Int.natAbs_mul, Int.natAbs_mul, Int.natAbs_mul] at e2
    have := pr_pos2 a3 (pr_pos2 a2 (pr_pos2 a1 e2))
    rw [show i = 0 by omega]; omega
  · have h2 := hi' 2 (by omega) (by omega)
    have D : ∀ a b, a < 4 → b < 4 → (Z 0 a * Z 1 b - Z 0 b * Z 1 a).natAbs ≤ 50 := by
      intro a b ha hb
      have e1 := hD a b (q 2) (q 3)
      have e2 := pr_DM2 (w := 4) (A := st_X n0 ex) h5 (a := a) (b := b) (c := q 2 - 4) (i := q 3 - 4) ha hb (by omega)
      rw [show 4 + (q 2 - 4) = q 2 by omega, show 4 + (q 3 - 4) = q 3 by omega, ← e1] at e2
      have e3 : pr_D Z a b (q 2) (q 3) = Z 2 (q 2) * (Z 3 (q 3) * (Z 0 a * Z 1 b - Z 0 b * Z 1 a)) := by
        simp [pr_D, hn_d4, hn_d3, hn_d2, q32, z (i := 2) (j := a) (by omega) (by omega) ha, z (i := 3) (j := a) (by omega) (by omega) ha, z (i := 2) (j := b) (by omega) (by omega) hb, z (i := 3) (j := b) (by omega) (by omega) hb]
        grind
      rw [e3, Int.natAbs_mul, Int.natAbs_mul] at e2
      exact pr_pos2 a3 (pr_pos2 a2 e2)
    have := pr_two (S := fun j => j < 4) (lo 0 (by omega)) (lo 1 (by omega)) a0 a1 q10 r01 D j hj
    rcases (show i = 0 ∨ i = 1 by omega) with rfl | rfl <;> omega
  · have h3 := hi' 3 (by omega) (by omega)
    have D : ∀ a b c, a < 4 → b < 4 → c < 4 → (hn_d3 (Z 0) (Z 1) (Z 2) a b c).natAbs ≤ 750 := by
      intro a b c ha hb hc
      have e1 := hD a b c (q 3)
      have e2 := pr_DM3 (w := 4) (A := st_X n0 ex) h5 (a := a) (b := b) (c := c) (i := q 3 - 4) ha hb hc (by omega)
      rw [show 4 + (q 3 - 4) = q 3 by omega, ← e1] at e2
      have e3 : pr_D Z a b c (q 3) = Z 3 (q 3) * hn_d3 (Z 0) (Z 1) (Z 2) a b c := by
        simp [pr_D, hn_d4, hn_d3, hn_d2, z (i := 3) (j := a) (by omega) (by omega) ha, z (i := 3) (j := b) (by omega) (by omega) hb, z (i := 3) (j := c) (by omega) (by omega) hc]
        grind
      rw [e3, Int.natAbs_mul] at e2
      exact pr_pos2 a3 e2
    have := pr_three (S := fun j => j < 4) (lo 0 (by omega)) (lo 1 (by omega)) (lo 2 (by omega)) a0 a1 a2 q10 q20 q21 r01 r02 r12 D j hj
    rcases (show i = 0 ∨ i = 1 ∨ i = 2 by omega) with rfl | rfl | rfl <;> omega
  · have h3 := lo 3 (by omega)
    have s0 : q 0 = 0 := by omega
    have s1 : q 1 = 1 := by omega
    have s2 : q 2 = 2 := by omega
    have s3 : q 3 = 3 := by omega
    rw [s0] at a0 q10 q20 q30
    rw [s1] at a1 q21 q31 r01
    rw [s2] at a2 q32 r02 r12
    rw [s3] at a3 r03 r13 r23
    have e1 := hD 0 1 2 3
    have e2 := cr_DM (st_X n0 ex) (T := 15) (by omega) 15 (by omega) rfl
    have e4 : cr_D (pr_M 4 (st_X n0 ex)) (dv_l 15 ++ (dv_l (15 - 15)).map (fun j => 4 + j)) = pr_D (pr_M 4 (st_X n0 ex)) 0 1 2 3 := rfl
    rw [e4, ← e1] at e2
    have e3 : pr_D Z 0 1 2 3 = Z 0 0 * (Z 1 1 * (Z 2 2 * Z 3 3)) := by
      simp [pr_D, hn_d4, hn_d3, hn_d2, q10, q20, q30, q21, q31, q32]
    have e5 := dv_small hok (R := 15) (C := 15) (by omega) (by omega)
    rw [e3] at e2
    obtain ⟨f0, f1, f2, f3⟩ := fb_mul4 a0 a1 a2 a3 (show _ ≤ 15000 by omega)
    rcases (show i = 0 ∨ i = 1 ∨ i = 2 ∨ i = 3 by omega) with rfl | rfl | rfl | rfl <;> rcases (show j = 0 ∨ j = 1 ∨ j = 2 ∨ j = 3 by omega) with rfl | rfl | rfl | rfl <;> omega
/-- where a sum of the base's rows is 0 at the beginnings of the first i rows, it has none of these -/
theorem fb_coef {n r : Nat} {p : Nat → Nat} {B : Nat → Nat → Int} (hB : hn_Base n r p B) {c v : Nat → Int} (hv : ∀ j, j < n → v j = hn_sum r (fun i => c i * B i j)) {i : Nat} (hi : i ≤ r) (h0 : ∀ l, l < i → v (p l) = 0) : ∀ l, l < i → c l = 0 := by
  intro l
  induction l using Nat.strongRecOn with
  | ind l ih =>
    intro hl
    have h1 := hv (p l) (hB.1 l (by omega))
    rw [h0 l hl, hn_at hB c (show l < r by omega) (fun i hi => ih i hi (by omega))] at h1
    have h2 := hB.2.2.2.1 l (by omega)
    rcases Int.mul_eq_zero.mp h1.symm with h | h
    · exact h
    · omega
theorem fb_zero {n r : Nat} {p : Nat → Nat} {B : Nat → Nat → Int} (hB : hn_Base n r p B) {v : Nat → Int} (hv : hn_In n r B v) (h0 : ∀ l, l < r → v (p l) = 0) : ∀ j, j < n → v j = 0 := by
  obtain ⟨c, hc⟩ := hv
  have := fb_coef hB hc (Nat.le_refl _) h0
  intro j hj
  rw [hc j hj]
  exact hn_sum_zero (fun i hi => by rw [this i hi, Int.zero_mul])
theorem fb_one {n r : Nat} {p : Nat → Nat} {B : Nat → Nat → Int} (hB : hn_Base n r p B) {c d : Nat → Int} (h : ∀ j, j < n → hn_sum r (fun i => c i * B i j) = hn_sum r (fun i => d i * B i j)) : ∀ i, i < r → c i = d i := by
  have := fb_coef hB (c := fun i => c i - d i) (v := fun _ => 0) (fun j hj => by
    have e : hn_sum r (fun i => (c i - d i) * B i j) = hn_sum r (fun i => c i * B i j + -1 * (d i * B i j)) := hn_sum_congr (fun i _ => by grind)
    rw [e, hn_sum_add, hn_sum_mul, h j hj]; omega) (Nat.le_refl _) (fun _ _ => rfl)
  intro i hi
  have := this i hi
  omega
theorem fb_abs {c k : Nat} {f : Nat → Int} (h : ∀ i, i < k → (f i).natAbs ≤ c * 2 ^ i) : (hn_sum k f).natAbs ≤ c * (2 ^ k - 1) := by
  induction k with
  | zero => simp [hn_sum]
  | succ k ih =>
    have h1 := ih (fun i hi => h i (by omega))
    have h2 := h k (by omega)
    rw [hn_sum_s]
    have h3 : 1 ≤ 2 ^ k := Nat.one_le_two_pow
    have e : c * (2 ^ (k + 1) - 1) = c * (2 ^ k - 1) + c * 2 ^ k := by
      rw [← Nat.mul_add]; congr 1; rw [Nat.pow_succ]; omega
    omega
