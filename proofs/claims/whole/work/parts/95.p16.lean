/-! The kernel's rows are small, and so are their determinants: they are complementary ones of the exponents. -/
theorem pr_abs3 {x y z : Int} {X Y W : Nat} (hx : x.natAbs ≤ X) (hy : y.natAbs ≤ Y) (hz : z.natAbs ≤ W) : (x * (y * z)).natAbs ≤ X * (Y * W) := by
  rw [Int.natAbs_mul, Int.natAbs_mul]; exact Nat.mul_le_mul hx (Nat.mul_le_mul hy hz)
theorem pr_d2b {u v : Nat → Int} {U V : Nat} {a b : Nat} (hu : (u a).natAbs ≤ U ∧ (u b).natAbs ≤ U) (hv : (v a).natAbs ≤ V ∧ (v b).natAbs ≤ V) : (u a * v b - u b * v a).natAbs ≤ 2 * (U * V) := by
  have e1 : (u a * v b).natAbs ≤ U * V := by rw [Int.natAbs_mul]; exact Nat.mul_le_mul hu.1 hv.2
  have e2 : (u b * v a).natAbs ≤ U * V := by rw [Int.natAbs_mul]; exact Nat.mul_le_mul hu.2 hv.1
  omega
/-- two stairs whose determinants are at most β -/
theorem pr_two {u v : Nat → Int} {P Q β : Nat} {S : Nat → Prop} (hP : S P) (hQ : S Q) (a0 : 0 < u P) (a1 : 0 < v Q) (z : v P = 0) (r : 0 ≤ u Q ∧ u Q < v Q) (D : ∀ a b, S a → S b → (u a * v b - u b * v a).natAbs ≤ β) : ∀ j, S j → (v j).natAbs ≤ β ∧ (u j).natAbs ≤ 2 * β := by
  intro j hj
  have k1 : (v j).natAbs ≤ β := by
    have := D P j hP hj
    rw [z, Int.mul_zero, Int.sub_zero, Int.natAbs_mul] at this
    have e : 1 * (v j).natAbs ≤ (u P).natAbs * (v j).natAbs := Nat.mul_le_mul_right _ (by omega)
    omega
  refine ⟨k1, ?_⟩
  have e1 := D j Q hj hQ
  have e3 : (u Q * v j).natAbs ≤ (v Q).natAbs * β := by
    rw [Int.natAbs_mul]; exact Nat.mul_le_mul (by omega) k1
  have e4 : (u j * v Q).natAbs ≤ β + (v Q).natAbs * β := by omega
  rw [Int.natAbs_mul] at e4
  refine pr_dv (k := (v Q).natAbs) (by omega) ?_
  have e5 : 1 * β ≤ (v Q).natAbs * β := Nat.mul_le_mul_right _ (by omega)
  have e6 : 2 * β * (v Q).natAbs = (v Q).natAbs * β + (v Q).natAbs * β := by grind
  omega
/-- three stairs whose determinants are at most β -/
theorem pr_three {u v x : Nat → Int} {P Q R β : Nat} {S : Nat → Prop} (hP : S P) (hQ : S Q) (hR : S R) (a0 : 0 < u P) (a1 : 0 < v Q) (a2 : 0 < x R) (z10 : v P = 0) (z20 : x P = 0) (z21 : x Q = 0) (r01 : 0 ≤ u Q ∧ u Q < v Q) (r02 : 0 ≤ u R ∧ u R < x R) (r12 : 0 ≤ v R ∧ v R < x R)
    (D : ∀ a b c, S a → S b → S c → (hn_d3 u v x a b c).natAbs ≤ β) : ∀ j, S j → (x j).natAbs ≤ β ∧ (v j).natAbs ≤ 2 * β ∧ (u j).natAbs ≤ 5 * β := by
  have D2 : ∀ a b, S a → S b → (v a * x b - v b * x a).natAbs ≤ β := by
    intro a b ha hb
    have := D P a b hP ha hb
    unfold hn_d3 hn_d2 at this
    rw [z10, z20] at this
    simp only [Int.mul_zero, Int.zero_mul, Int.sub_zero, Int.sub_self, Int.add_zero, Int.natAbs_mul] at this
    have e : 1 * (v a * x b - v b * x a).natAbs ≤ (u P).natAbs * (v a * x b - v b * x a).natAbs := Nat.mul_le_mul_right _ (by omega)
    omega
  intro j hj
  obtain ⟨k2, k1⟩ := pr_two hQ hR a1 a2 z21 r12 D2 j hj
  refine ⟨k2, k1, ?_⟩
  have e1 := D j Q R hj hQ hR
  have e3 := D2 j R hj hR
  unfold hn_d3 hn_d2 at e1
  rw [z21] at e1
  simp only [Int.mul_zero, Int.zero_mul, Int.sub_zero, Int.zero_sub] at e1
  have t1 : (u Q * (v j * x R - v R * x j)).natAbs ≤ (v Q).natAbs * β := by rw [Int.natAbs_mul]; exact Nat.mul_le_mul (by omega) e3
  have t2 : (u R * -(v Q * x j)).natAbs ≤ (x R).natAbs * ((v Q).natAbs * β) := by
    rw [Int.natAbs_mul, Int.natAbs_neg, Int.natAbs_mul]
    exact Nat.mul_le_mul (by omega) (Nat.mul_le_mul_left _ k2)
  have e4 : (u j * (v Q * x R)).natAbs ≤ β + (v Q).natAbs * β + (x R).natAbs * ((v Q).natAbs * β) := by omega
  rw [Int.natAbs_mul, Int.natAbs_mul] at e4
  have hx : 1 * 1 ≤ (v Q).natAbs * (x R).natAbs := Nat.mul_le_mul (by omega) (by omega)
  refine pr_dv (k := (v Q).natAbs * (x R).natAbs) (by omega) ?_
  have f1 : (v Q).natAbs * 1 ≤ (v Q).natAbs * (x R).natAbs := Nat.mul_le_mul_left _ (by omega)
  have f1' : (v Q).natAbs * 1 * β ≤ (v Q).natAbs * (x R).natAbs * β := Nat.mul_le_mul_right _ f1
  have f2 : (x R).natAbs * ((v Q).natAbs * β) = (v Q).natAbs * (x R).natAbs * β := by grind
  have f3 : 1 * β ≤ (v Q).natAbs * (x R).natAbs * β := Nat.mul_le_mul_right _ (by omega)
  have f4 : 5 * β * ((v Q).natAbs * (x R).natAbs) = 5 * ((v Q).natAbs * (x R).natAbs * β) := by grind
  rw [Nat.mul_one] at f1'
  omega
/-- at the place b one of the rows has 1, or none, and the others 0 -/
def pr_U2 (u v : Nat → Int) (b : Nat) : Prop := (u b = 1 ∧ v b = 0) ∨ (u b = 0 ∧ v b = 1) ∨ (u b = 0 ∧ v b = 0)
def pr_U3 (u v x : Nat → Int) (b : Nat) : Prop := (u b = 1 ∧ v b = 0 ∧ x b = 0) ∨ (u b = 0 ∧ v b = 1 ∧ x b = 0) ∨ (u b = 0 ∧ v b = 0 ∧ x b = 1) ∨ (u b = 0 ∧ v b = 0 ∧ x b = 0)
def pr_U4 (u v x y : Nat → Int) (b : Nat) : Prop := (u b = 1 ∧ v b = 0 ∧ x b = 0 ∧ y b = 0) ∨ (u b = 0 ∧ v b = 1 ∧ x b = 0 ∧ y b = 0) ∨ (u b = 0 ∧ v b = 0 ∧ x b = 1 ∧ y b = 0) ∨ (u b = 0 ∧ v b = 0 ∧ x b = 0 ∧ y b = 1)
theorem pr_u2 {u v : Nat → Int} {a b B : Nat} (h : pr_U2 u v b) (h1 : (u a).natAbs ≤ B) (h2 : (v a).natAbs ≤ B) : (hn_d2 u v a b).natAbs ≤ B := by
  rcases h with ⟨e1, e2⟩ | ⟨e1, e2⟩ | ⟨e1, e2⟩
  · rw [show hn_d2 u v a b = -v a by simp [hn_d2, e1, e2], Int.natAbs_neg]; exact h2
  · rw [show hn_d2 u v a b = u a by simp [hn_d2, e1, e2]]; exact h1
  · rw [show hn_d2 u v a b = 0 by simp [hn_d2, e1, e2]]; simp
theorem pr_u3 {u v x : Nat → Int} {a b c B : Nat} (h : pr_U3 u v x c) (h1 : (hn_d2 u v a b).natAbs ≤ B) (h2 : (hn_d2 u x a b).natAbs ≤ B) (h3 : (hn_d2 v x a b).natAbs ≤ B) : (hn_d3 u v x a b c).natAbs ≤ B := by
  rcases h with ⟨e1, e2, e3⟩ | ⟨e1, e2, e3⟩ | ⟨e1, e2, e3⟩ | ⟨e1, e2, e3⟩
  · rw [show hn_d3 u v x a b c = hn_d2 v x a b by simp [hn_d3, hn_d2, e1, e2, e3]]; exact h3
  · rw [show hn_d3 u v x a b c = -hn_d2 u x a b by simp [hn_d3, hn_d2, e1, e2, e3]; grind, Int.natAbs_neg]; exact h2
  · rw [show hn_d3 u v x a b c = hn_d2 u v a b by simp [hn_d3, hn_d2, e1, e2, e3]]; exact h1
  · rw [show hn_d3 u v x a b c = 0 by simp [hn_d3, hn_d2, e1, e2, e3]]; simp
theorem pr_u4 {u v x y : Nat → Int} {a b c d B : Nat} (h : pr_U4 u v x y d) (h1 : (hn_d3 u v x a b c).natAbs ≤ B) (h2 : (hn_d3 u v y a b c).natAbs ≤ B) (h3 : (hn_d3 u x y a b c).natAbs ≤ B) (h4 : (hn_d3 v x y a b c).natAbs ≤ B) : (hn_d4 u v x y a b c d).natAbs ≤ B := by
  rcases h with ⟨e1, e2, e3, e4⟩ | ⟨e1, e2, e3, e4⟩ | ⟨e1, e2, e3, e4⟩ | ⟨e1, e2, e3, e4⟩
  · rw [show hn_d4 u v x y a b c d = -hn_d3 v x y a b c by simp [hn_d4, hn_d3, hn_d2, e1, e2, e3, e4], Int.natAbs_neg]; exact h4
  · rw [show hn_d4 u v x y a b c d = hn_d3 u x y a b c by simp [hn_d4, hn_d3, hn_d2, e1, e2, e3, e4]]; exact h3
  · rw [show hn_d4 u v x y a b c d = -hn_d3 u v y a b c by simp [hn_d4, hn_d3, hn_d2, e1, e2, e3, e4]; grind, Int.natAbs_neg]; exact h2
  · rw [show hn_d4 u v x y a b c d = hn_d3 u v x a b c by simp [hn_d4, hn_d3, hn_d2, e1, e2, e3, e4]]; exact h1
theorem pr_Mu (w : Nat) (A : Nat → Nat → Int) (k i : Nat) : pr_M w A k (w + i) = if i = k then 1 else 0 := by simp [pr_M, show ¬ w + i < w by omega]
theorem pr_MU2 (w : Nat) (A : Nat → Nat → Int) {x y : Nat} (i : Nat) (h : x ≠ y) : pr_U2 (pr_M w A x) (pr_M w A y) (w + i) := by
  unfold pr_U2; rw [pr_Mu, pr_Mu]
  by_cases e : i = x
  · left; rw [if_pos e, if_neg (by omega)]; exact ⟨rfl, rfl⟩
  · rw [if_neg e]
    by_cases e2 : i = y <;> simp [e2]
theorem pr_MU3 (w : Nat) (A : Nat → Nat → Int) {x y z : Nat} (i : Nat) (h : x ≠ y) (h2 : y ≠ z) (h3 : x ≠ z) : pr_U3 (pr_M w A x) (pr_M w A y) (pr_M w A z) (w + i) := by
  unfold pr_U3; rw [pr_Mu, pr_Mu, pr_Mu]
  by_cases e : i = x
  · left; rw [if_pos e, if_neg (by omega), if_neg (by omega)]; exact ⟨rfl, rfl, rfl⟩
  · rw [if_neg e]
    by_cases e2 : i = y
    · right; left; rw [if_pos e2, if_neg (by omega)]; exact ⟨rfl, rfl, rfl⟩
    · rw [if_neg e2]
      by_cases e3 : i = z <;> simp [e3]
theorem pr_MU4 (w : Nat) (A : Nat → Nat → Int) {i : Nat} (h : i < 4) : pr_U4 (pr_M w A 0) (pr_M w A 1) (pr_M w A 2) (pr_M w A 3) (w + i) := by
  unfold pr_U4; rw [pr_Mu, pr_Mu, pr_Mu, pr_Mu]
  rcases (show i = 0 ∨ i = 1 ∨ i = 2 ∨ i = 3 by omega) with rfl | rfl | rfl | rfl <;> simp
theorem pr_DM {w : Nat} {A : Nat → Nat → Int} {a b c i B : Nat} (hi : i < 4) (h : ∀ x y z, x < y → y < z → z < 4 → (hn_d3 (pr_M w A x) (pr_M w A y) (pr_M w A z) a b c).natAbs ≤ B) : (pr_D (pr_M w A) a b c (w + i)).natAbs ≤ B :=
  pr_u4 (pr_MU4 w A hi) (h 0 1 2 (by omega) (by omega) (by omega)) (h 0 1 3 (by omega) (by omega) (by omega)) (h 0 2 3 (by omega) (by omega) (by omega)) (h 1 2 3 (by omega) (by omega) (by omega))
theorem pr_Md2 {w : Nat} {A : Nat → Nat → Int} (h : ∀ i j, i < 4 → j < w → (A i j).natAbs ≤ 5) {a b x y : Nat} (ha : a < w) (hb : b < w) (hx : x < 4) (hy : y < 4) : (hn_d2 (pr_M w A x) (pr_M w A y) a b).natAbs ≤ 50 := by
  have ek : ∀ i j, i < 4 → j < w → (pr_M w A i j).natAbs ≤ 5 := fun i j hi hj => by simp only [pr_M, hj, if_true]; exact h i j hi hj
  exact pr_d2b (U := 5) (V := 5) ⟨ek x a hx ha, ek x b hx hb⟩ ⟨ek y a hy ha, ek y b hy hb⟩
theorem pr_DM3 {w : Nat} {A : Nat → Nat → Int} (h : ∀ i j, i < 4 → j < w → (A i j).natAbs ≤ 5) {a b c i : Nat} (ha : a < w) (hb : b < w) (hc : c < w) (hi : i < 4) : (pr_D (pr_M w A) a b c (w + i)).natAbs ≤ 750 := by
  have ek : ∀ i j, i < 4 → j < w → (pr_M w A i j).natAbs ≤ 5 := fun i j hi hj => by simp only [pr_M, hj, if_true]; exact h i j hi hj
  refine pr_DM hi (fun x y z h1 h2 h3 => ?_)
  unfold hn_d3
  have e1 : (pr_M w A x a * hn_d2 (pr_M w A y) (pr_M w A z) b c).natAbs ≤ 5 * 50 := by rw [Int.natAbs_mul]; exact Nat.mul_le_mul (ek x a (by omega) ha) (pr_Md2 h hb hc (by omega) (by omega))
  have e2 : (pr_M w A x b * hn_d2 (pr_M w A y) (pr_M w A z) a c).natAbs ≤ 5 * 50 := by rw [Int.natAbs_mul]; exact Nat.mul_le_mul (ek x b (by omega) hb) (pr_Md2 h ha hc (by omega) (by omega))
  have e3 : (pr_M w A x c * hn_d2 (pr_M w A y) (pr_M w A z) a b).natAbs ≤ 5 * 50 := by rw [Int.natAbs_mul]; exact Nat.mul_le_mul (ek x c (by omega) hc) (pr_Md2 h ha hb (by omega) (by omega))
  omega
theorem pr_DM2 {w : Nat} {A : Nat → Nat → Int} (h : ∀ i j, i < 4 → j < w → (A i j).natAbs ≤ 5) {a b c i : Nat} (ha : a < w) (hb : b < w) (hi : i < 4) : (pr_D (pr_M w A) a b (w + c) (w + i)).natAbs ≤ 50 :=
  pr_DM hi (fun x y z h1 h2 h3 => pr_u3 (pr_MU3 w A c (by omega) (by omega) (by omega)) (pr_Md2 h ha hb (by omega) (by omega)) (pr_Md2 h ha hb (by omega) (by omega)) (pr_Md2 h ha hb (by omega) (by omega)))
theorem pr_DMb {w : Nat} {A : Nat → Nat → Int} {B : Nat} {a b c i : Nat} (h : ∀ i, i < 4 → (pr_M w A i a).natAbs ≤ B) (hi : i < 4) : (pr_D (pr_M w A) a (w + b) (w + c) (w + i)).natAbs ≤ B :=
  pr_DM hi (fun x y z h1 h2 h3 => pr_u3 (pr_MU3 w A c (by omega) (by omega) (by omega)) (pr_u2 (pr_MU2 w A b (by omega)) (h x (by omega)) (h y (by omega))) (pr_u2 (pr_MU2 w A b (by omega)) (h x (by omega)) (h z (by omega))) (pr_u2 (pr_MU2 w A b (by omega)) (h y (by omega)) (h z (by omega))))
theorem pr_DM1 {w : Nat} {A : Nat → Nat → Int} (h : ∀ i j, i < 4 → j < w → (A i j).natAbs ≤ 5) {a b c i : Nat} (ha : a < w) (hi : i < 4) : (pr_D (pr_M w A) a (w + b) (w + c) (w + i)).natAbs ≤ 5 :=
  pr_DMb (fun i hi => by simp only [pr_M, ha, if_true]; exact h i a hi ha) hi
theorem pr_DM0 {w : Nat} {A : Nat → Nat → Int} {a b c i : Nat} (hi : i < 4) : (pr_D (pr_M w A) (w + a) (w + b) (w + c) (w + i)).natAbs ≤ 1 :=
  pr_DMb (fun i hi => by rw [pr_Mu]; split <;> decide) hi
theorem pr_pos2 {x : Int} {y B : Nat} (hx : 0 < x) (h : x.natAbs * y ≤ B) : y ≤ B := by
  have e : 1 * y ≤ x.natAbs * y := Nat.mul_le_mul_right _ (by omega)
  omega
