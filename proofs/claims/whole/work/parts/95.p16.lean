/-! The kernel's rows are small, and so are their determinants: they are complementary ones of the exponents. -/
theorem pr_abs3 {x y z : Int} {X Y W : Nat} (hx : x.natAbs ≤ X) (hy : y.natAbs ≤ Y) (hz : z.natAbs ≤ W) : (x * (y * z)).natAbs ≤ X * (Y * W) := by
  rw [Int.natAbs_mul, Int.natAbs_mul]; exact Nat.mul_le_mul hx (Nat.mul_le_mul hy hz)
theorem pr_d2b {u v : Nat → Int} {U V : Nat} {a b : Nat} (hu : (u a).natAbs ≤ U ∧ (u b).natAbs ≤ U) (hv : (v a).natAbs ≤ V ∧ (v b).natAbs ≤ V) : (u a * v b - u b * v a).natAbs ≤ 2 * (U * V) := by
  have e1 : (u a * v b).natAbs ≤ U * V := by rw [Int.natAbs_mul]; exact Nat.mul_le_mul hu.1 hv.2
  have e2 : (u b * v a).natAbs ≤ U * V := by rw [Int.natAbs_mul]; exact Nat.mul_le_mul hu.2 hv.1
  omega
/-- two stairs whose determinants are at most β -/
theorem pr_two {u v : Nat → Int} {P Q β : Nat} {S : Nat → Prop} (hP : S P) (hQ : S Q) (a0 : 0 < u P) (a1 : 0 < v Q) (z : v P = 0) (r : 0 ≤ u Q ∧ u Q < v Q) (D : ∀ a b, S a → S b → (u a * v b - u b * v a).natAbs ≤ β) : ∀ j, S j → (v j).natAbs ≤ β ∧ (u j).natAbs ≤ 2 * β := by
  intro j hj
  have k1 : (v j).natAbs ≤ β := by
    have := D P j hP hj
    rw [z, Int.mul_zero, Int.sub_zero, Int.natAbs_mul] at this
    have e : 1 * (v j).natAbs ≤ (u P).natAbs * (v j).natAbs := Nat.mul_le_mul_right _ (by omega)
    omega
  refine ⟨k1, ?_⟩
  have e1 := D j Q hj hQ
  have e3 : (u Q * v j).natAbs ≤ (v Q).natAbs * β := by
    rw [Int.natAbs_mul]; exact Nat.mul_le_mul (by omega) k1
  have e4 : (u j * v Q).natAbs ≤ β + (v Q).natAbs * β := by omega
  rw [Int.natAbs_mul] at e4
  refine pr_dv (k := (v Q).natAbs) (by omega) ?_
  have e5 : 1 * β ≤ (v Q).natAbs * β := Nat.mul_le_mul_right _ (by omega)
  have e6 : 2 * β * (v Q).natAbs = (v Q).natAbs * β + (v Q).natAbs * β := by grind
  omega
/-- three stairs whose determinants are at most β -/
theorem pr_three {u v x : Nat → Int} {P Q R β : Nat} {S : Nat → Prop} (hP : S P) (hQ : S Q) (hR : S R) (a0 : 0 < u P) (a1 : 0 < v Q) (a2 : 0 < x R) (z10 : v P = 0) (z20 : x P = 0) (z21 : x Q = 0) (r01 : 0 ≤ u Q ∧ u Q < v Q) (r02 : 0 ≤ u R ∧ u R < x R) (r12 : 0 ≤ v R ∧ v R < x R)
    (D : ∀ a b c, S a → S b → S c → (hn_d3 u v x a b c).natAbs ≤ β) : ∀ j, S j → (x j).natAbs ≤ β ∧ (v j).natAbs ≤ 2 * β ∧ (u j).natAbs ≤ 5 * β := by
  have D2 : ∀ a b, S a → S b → (v a * x b - v b * x a).natAbs ≤ β := by
    intro a b ha hb
    have := D P a b hP ha hb
    unfold hn_d3 hn_d2 at this
    rw [z10, z20] at this
    simp only [Int.mul_zero, Int.zero_mul, Int.sub_zero, Int.sub_self, Int.add_zero, Int.natAbs_mul] at this
    have e : 1 * (v a * x b - v b * x a).natAbs ≤ (u P).natAbs * (v a * x b - v b * x a).natAbs := Nat.mul_le_mul_right _ (by omega)
    omega
  intro j hj
  obtain ⟨k2, k1⟩ := pr_two hQ hR a1 a2 z21 r12 D2 j hj
  refine ⟨k2, k1, ?_⟩
  have e1 := D j Q R hj hQ hR
  have e3 := D2 j R hj hR
  unfold hn_d3 hn_d2 at e1
  rw [z21] at e1
  simp only [Int.mul_zero, Int.zero_mul, Int.sub_zero, Int.zero_sub] at e1
  have t1 : (u Q * (v j * x R - v R * x j)).natAbs ≤ (v Q).natAbs * β := by rw [Int.natAbs_mul]; exact Nat.mul_le_mul (by omega) e3
  have t2 : (u R * -(v Q * x j)).natAbs ≤ (x R).natAbs * ((v Q).natAbs * β) := by
    rw [Int.natAbs_mul, Int.natAbs_neg, Int.natAbs_mul]
    exact Nat.mul_le_mul (by omega) (Nat.mul_le_mul_left _ k2)
  have e4 : (u j * (v Q * x R)).natAbs ≤ β + (v Q).natAbs * β + (x R).natAbs * ((v Q).natAbs * β) := by omega
  rw [Int.natAbs_mul, Int.natAbs_mul] at e4
  have hx : 1 * 1 ≤ (v Q).natAbs * (x R).natAbs := Nat.mul_le_mul (by omega) (by omega)
  refine pr_dv (k := (v Q).natAbs * (x R).natAbs) (by omega) ?_
  have f1 : (v Q).natAbs * 1 ≤ (v Q).natAbs * (x R).natAbs := Nat.mul_le_mul_left _ (by omega)
  have f1' : (v Q).natAbs * 1 * β ≤ (v Q).natAbs * (x R).natAbs * β := Nat.mul_le_mul_right _ f1
  have f2 : (x R).natAbs * ((v Q).natAbs * β) = (v Q).natAbs * (x R).natAbs * β := by grind
  have f3 : 1 * β ≤ (v Q).natAbs * (x R).natAbs * β := Nat.mul_le_mul_right _ (by omega)
  have f4 : 5 * β * ((v Q).natAbs * (x R).natAbs) = 5 * ((v Q).natAbs * (x R).natAbs * β) := by grind
  rw [Nat.mul_one] at f1'
  omega
set_option maxHeartbeats 4000000 in
/-- determinants of the exponents with unit columns: one, two or three of them -/
theorem pr_DM3 {w : Nat} {A : Nat → Nat → Int} (hw : w ≤ 4) (h : ∀ i j, i < 4 → j < w → (A i j).natAbs ≤ 5) {a b c i : Nat} (ha : a < w) (hb : b < w) (hc : c < w) (hi : i < 4) : (pr_D (pr_M w A) a b c (w + i)).natAbs ≤ 750 := by
  have ek : ∀ i j, j < w → pr_M w A i j = A i j := fun i j hj => by simp [pr_M, hj]
  have eu : ∀ k i, pr_M w A k (w + i) = if i = k then 1 else 0 := fun k i => by simp [pr_M, show ¬ w + i < w by omega]
  have d3 : ∀ x y z, x < 4 → y < 4 → z < 4 → (hn_d3 (A x) (A y) (A z) a b c).natAbs ≤ 750 := by
    intro x y z hx hy hz
    unfold hn_d3 hn_d2
    have t : ∀ p q, p < w → q < w → (A y p * A z q - A y q * A z p).natAbs ≤ 2 * (5 * 5) := fun p q hp hq => pr_d2b ⟨h y p hy hp, h y q hy hq⟩ ⟨h z p hz hp, h z q hz hq⟩
    have e1 : (A x a * (A y b * A z c - A y c * A z b)).natAbs ≤ 5 * (2 * (5 * 5)) := by rw [Int.natAbs_mul]; exact Nat.mul_le_mul (h x a hx ha) (t b c hb hc)
    have e2 : (A x b * (A y a * A z c - A y c * A z a)).natAbs ≤ 5 * (2 * (5 * 5)) := by rw [Int.natAbs_mul]; exact Nat.mul_le_mul (h x b hx hb) (t a c ha hc)
    have e3 : (A x c * (A y a * A z b - A y b * A z a)).natAbs ≤ 5 * (2 * (5 * 5)) := by rw [Int.natAbs_mul]; exact Nat.mul_le_mul (h x c hx hc) (t a b ha hb)
    omega
  have e : pr_D (pr_M w A) a b c (w + i) = hn_d4 (fun j => if j = w + i then pr_M w A 0 (w + i) else A 0 j) (fun j => if j = w + i then pr_M w A 1 (w + i) else A 1 j) (fun j => if j = w + i then pr_M w A 2 (w + i) else A 2 j) (fun j => if j = w + i then pr_M w A 3 (w + i) else A 3 j) a b c (w + i) := by
    simp [pr_D, hn_d4, hn_d3, hn_d2, ek _ a ha, ek _ b hb, ek _ c hc, show ¬ a = w + i by omega, show ¬ b = w + i by omega, show ¬ c = w + i by omega]
  rw [e]
  have q1 := d3 0 1 2 (by omega) (by omega) (by omega)
  have q2 := d3 0 1 3 (by omega) (by omega) (by omega)
  have q3 := d3 0 2 3 (by omega) (by omega) (by omega)
  have q4 := d3 1 2 3 (by omega) (by omega) (by omega)
  have n1 : ¬ a = w + i := by omega
  have n2 : ¬ b = w + i := by omega
  have n3 : ¬ c = w + i := by omega
  rcases (show i = 0 ∨ i = 1 ∨ i = 2 ∨ i = 3 by omega) with rfl | rfl | rfl | rfl <;> simp only [hn_d4, hn_d3, hn_d2, eu, n1, n2, n3, if_true, if_false] <;> simp <;> simp only [hn_d3, hn_d2] at q1 q2 q3 q4 <;> omega
