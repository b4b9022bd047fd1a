/-! The matrices at the start are small: exponents, and later the kernel's rows turned. -/
def pr_M (w : Nat) (A : Nat → Nat → Int) : Nat → Nat → Int := fun i j => if j < w then A i j else if j = w + i then 1 else 0
theorem pr_M_D {w : Nat} {A : Nat → Nat → Int} (hw : w ≤ 4) (a b c : Nat) : pr_D (pr_M w A) a b c (w + 3) = hn_d3 (pr_M w A 0) (pr_M w A 1) (pr_M w A 2) a b c := by
  have e0 : pr_M w A 0 (w + 3) = 0 := by simp [pr_M, show ¬ w + 3 < w by omega]
  have e1 : pr_M w A 1 (w + 3) = 0 := by simp [pr_M, show ¬ w + 3 < w by omega]
  have e2 : pr_M w A 2 (w + 3) = 0 := by simp [pr_M, show ¬ w + 3 < w by omega]
  have e3 : pr_M w A 3 (w + 3) = 1 := by simp [pr_M, show ¬ w + 3 < w by omega]
  simp [pr_D, hn_d4, hn_d3, hn_d2, e0, e1, e2, e3]
theorem pr_col {w : Nat} {A : Nat → Nat → Int} (x : Nat) : x < w ∨ (pr_M w A 0 x = 1 ∧ pr_M w A 1 x = 0 ∧ pr_M w A 2 x = 0) ∨ (pr_M w A 0 x = 0 ∧ pr_M w A 1 x = 1 ∧ pr_M w A 2 x = 0) ∨ (pr_M w A 0 x = 0 ∧ pr_M w A 1 x = 0 ∧ pr_M w A 2 x = 1) ∨ (pr_M w A 0 x = 0 ∧ pr_M w A 1 x = 0 ∧ pr_M w A 2 x = 0) := by
  unfold pr_M
  by_cases h : x < w
  · exact Or.inl h
  · by_cases h0 : x = w
    · right; left; simp [h0]
    · by_cases h1 : x = w + 1
      · right; right; left; simp [h1, show ¬ w + 1 < w by omega]
      · by_cases h2 : x = w + 2
        · right; right; right; left; simp [h2, show ¬ w + 2 < w by omega]
        · right; right; right; right; simp [h, h0, h1, h2]
set_option maxHeartbeats 4000000 in
theorem pr_MatK {w : Nat} {A : Nat → Nat → Int} (hw : w ≤ 4) (h1 : ∀ i j, i < 4 → j < w → (A i j).natAbs ≤ 750) (h2 : ∀ i k a b, i < 3 → k < 3 → a < w → b < w → (A i a * A k b - A i b * A k a).natAbs ≤ 750) (h3 : ∀ a b c, a < w → b < w → c < w → (hn_d3 (A 0) (A 1) (A 2) a b c).natAbs ≤ 750) : pr_Mat w (pr_M w A) := by
  have ek : ∀ i j, j < w → pr_M w A i j = A i j := fun i j hj => by simp [pr_M, hj]
  refine ⟨hw, fun i hi => by simp [pr_M, show ¬ w + i < w by omega], fun i j hi h1 h2 h3 => by simp [pr_M, show ¬ j < w by omega, h3], fun i j hi hj => ?_, fun a b c ha hb hc => ?_⟩
  · unfold pr_M
    split
    · exact h1 i j hi (by assumption)
    · split <;> decide
  · rw [pr_M_D hw]
    have E : ∀ x, x < w → (pr_M w A 0 x).natAbs ≤ 750 ∧ (pr_M w A 1 x).natAbs ≤ 750 ∧ (pr_M w A 2 x).natAbs ≤ 750 := fun x hx => by rw [ek 0 x hx, ek 1 x hx, ek 2 x hx]; exact ⟨h1 0 x (by omega) hx, h1 1 x (by omega) hx, h1 2 x (by omega) hx⟩
    have F : ∀ x y, x < w → y < w → (pr_M w A 0 x * pr_M w A 1 y - pr_M w A 0 y * pr_M w A 1 x).natAbs ≤ 750 ∧ (pr_M w A 0 x * pr_M w A 2 y - pr_M w A 0 y * pr_M w A 2 x).natAbs ≤ 750 ∧ (pr_M w A 1 x * pr_M w A 2 y - pr_M w A 1 y * pr_M w A 2 x).natAbs ≤ 750 := fun x y hx hy => by
      rw [ek 0 x hx, ek 1 x hx, ek 2 x hx, ek 0 y hy, ek 1 y hy, ek 2 y hy]
      exact ⟨h2 0 1 x y (by omega) (by omega) hx hy, h2 0 2 x y (by omega) (by omega) hx hy, h2 1 2 x y (by omega) (by omega) hx hy⟩
    rcases pr_col (w := w) (A := A) a with xa | ⟨a0, a1, a2⟩ | ⟨a0, a1, a2⟩ | ⟨a0, a1, a2⟩ | ⟨a0, a1, a2⟩ <;> rcases pr_col (w := w) (A := A) b with xb | ⟨b0, b1, b2⟩ | ⟨b0, b1, b2⟩ | ⟨b0, b1, b2⟩ | ⟨b0, b1, b2⟩ <;> rcases pr_col (w := w) (A := A) c with xc | ⟨c0, c1, c2⟩ | ⟨c0, c1, c2⟩ | ⟨c0, c1, c2⟩ | ⟨c0, c1, c2⟩
    case inl.inl.inl =>
      have := h3 a b c xa xb xc
      unfold hn_d3 hn_d2 at this ⊢
      rw [ek 0 a xa, ek 1 a xa, ek 2 a xa, ek 0 b xb, ek 1 b xb, ek 2 b xb, ek 0 c xc, ek 1 c xc, ek 2 c xc]
      exact this
    all_goals
      clear h1 h2 h3 ek ha hb hc
      unfold hn_d3 hn_d2
      simp only [*, Int.mul_zero, Int.zero_mul, Int.mul_one, Int.one_mul, Int.sub_zero, Int.zero_sub, Int.add_zero, Int.zero_add, Int.sub_self, Int.neg_zero, Int.mul_neg, Int.neg_mul, Int.neg_neg] <;> first
        | decide
        | (have := E a (by assumption); omega)
        | (have := E b (by assumption); omega)
        | (have := E c (by assumption); omega)
        | (have := F a b (by assumption) (by assumption); omega)
        | (have := F a c (by assumption) (by assumption); omega)
        | (have := F b c (by assumption) (by assumption); omega)
/-- exponents are at most 5 -/
theorem pr_MatA {w : Nat} {A : Nat → Nat → Int} (hw : w ≤ 4) (h : ∀ i j, i < 4 → j < w → (A i j).natAbs ≤ 5) : pr_Mat w (pr_M w A) := by
  have d2 : ∀ i k a b, i < 4 → k < 4 → a < w → b < w → (A i a * A k b - A i b * A k a).natAbs ≤ 50 := by
    intro i k a b hi hk ha hb
    have e1 : (A i a * A k b).natAbs ≤ 25 := by rw [Int.natAbs_mul]; exact Nat.mul_le_mul (h i a hi ha) (h k b hk hb)
    have e2 : (A i b * A k a).natAbs ≤ 25 := by rw [Int.natAbs_mul]; exact Nat.mul_le_mul (h i b hi hb) (h k a hk ha)
    omega
  refine pr_MatK hw (fun i j hi hj => by have := h i j hi hj; omega) (fun i k a b hi hk ha hb => by have := d2 i k a b (by omega) (by omega) ha hb; omega) (fun a b c ha hb hc => ?_)
  unfold hn_d3 hn_d2
  have e1 : (A 0 a * (A 1 b * A 2 c - A 1 c * A 2 b)).natAbs ≤ 5 * 50 := by rw [Int.natAbs_mul]; exact Nat.mul_le_mul (h 0 a (by omega) ha) (d2 1 2 b c (by omega) (by omega) hb hc)
  have e2 : (A 0 b * (A 1 a * A 2 c - A 1 c * A 2 a)).natAbs ≤ 5 * 50 := by rw [Int.natAbs_mul]; exact Nat.mul_le_mul (h 0 b (by omega) hb) (d2 1 2 a c (by omega) (by omega) ha hc)
  have e3 : (A 0 c * (A 1 a * A 2 b - A 1 b * A 2 a)).natAbs ≤ 5 * 50 := by rw [Int.natAbs_mul]; exact Nat.mul_le_mul (h 0 c (by omega) hc) (d2 1 2 a b (by omega) (by omega) ha hb)
  omega
