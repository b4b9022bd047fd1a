/-! How far numbers grow in keepSmall. -/
theorem pr_q0 {x a : Int} (h0 : 0 ≤ x) (h1 : x < a) : x / a = 0 := Int.ediv_eq_zero_of_lt h0 h1
theorem pr_qle {x a : Int} {N : Nat} (ha : 0 < a) (h : x.natAbs ≤ N * a.natAbs) : (x / a).natAbs ≤ N := by
  have h1 := Int.emod_nonneg x (by omega : a ≠ 0)
  have h2 := Int.emod_lt_of_pos x ha
  have h3 := Int.mul_ediv_add_emod x a
  rcases Int.lt_or_le (x / a) 0 with q | q
  · -- x / a = -m, x >= -N a
    rcases Nat.lt_or_ge N (x / a).natAbs with z | z
    · exfalso
      have e1 : x / a ≤ -(N : Int) - 1 := by omega
      have e2 : a * (x / a) ≤ a * (-(N : Int) - 1) := Int.mul_le_mul_of_nonneg_left e1 (by omega)
      have e3 : a * (-(N : Int) - 1) = -((N : Int) * a) - a := by grind
      have e4 : ((N * a.natAbs : Nat) : Int) = (N : Int) * a := by
        rw [Int.natCast_mul]; congr 1; omega
      omega
    · exact z
  · rcases Nat.lt_or_ge N (x / a).natAbs with z | z
    · exfalso
      have e1 : (N : Int) + 1 ≤ x / a := by omega
      have e2 : a * ((N : Int) + 1) ≤ a * (x / a) := Int.mul_le_mul_of_nonneg_left e1 (by omega)
      have e3 : a * ((N : Int) + 1) = (N : Int) * a + a := by grind
      have e4 : ((N * a.natAbs : Nat) : Int) = (N : Int) * a := by
        rw [Int.natCast_mul]; congr 1; omega
      omega
    · exact z
theorem pr_sub_le {x q y : Int} {X Q Y : Nat} (hx : x.natAbs ≤ X) (hq : q.natAbs ≤ Q) (hy : y.natAbs ≤ Y) : (x - q * y).natAbs ≤ X + Q * Y := by
  have h1 := pr_abs_sub_mul x q y
  have h2 : q.natAbs * y.natAbs ≤ Q * Y := Nat.mul_le_mul hq hy
  omega
/-- a row that is below all beginnings stays -/
theorem pr_kS_idle {n : Nat} {Z : Nat → Nat → Int} {p : Nat → Nat} {b t : Nat} (hE : pr_Ech n b p Z) {i m1 : Nat} : ∀ m2, m1 ≤ m2 → m2 ≤ b → (∀ k, m1 ≤ k → k < m2 → (i < k ∨ (b ≤ i ∧ i ≤ t)) → 0 ≤ pr_kS Z p b t m1 i (p k) ∧ pr_kS Z p b t m1 i (p k) < Z k (p k)) → pr_kS Z p b t m2 i = pr_kS Z p b t m1 i := by
  intro m2
  induction m2 with
  | zero => intro h1 _ _; rw [show m1 = 0 by omega]
  | succ m ih =>
    intro h1 h2 h
    rcases Nat.eq_or_lt_of_le h1 with e | e
    · rw [e]
    · have e0 := ih (by omega) (by omega) (fun k a c d => h k a (by omega) d)
      funext c
      show pr_ks (pr_kS Z p b t m) p b t m i c = _
      unfold pr_ks
      by_cases hy : i < m ∨ (b ≤ i ∧ i ≤ t)
      · have h9 := h m (by omega) (by omega) hy
        rw [if_pos hy, pr_kS_stay hE m (by omega) m (p m) (by omega) (Nat.le_refl _), e0, pr_q0 h9.1 h9.2]
        simp
      · rw [if_neg hy, e0]
/-- the growth of one row, from the step m0 on; the base rows from there on are as they were, and below the later beginnings -/
theorem pr_kS_grow {n : Nat} {Z : Nat → Nat → Int} {p : Nat → Nat} {b t : Nat} (hE : pr_Ech n b p Z) {i m0 : Nat} {C X : Nat → Nat} {x : Nat} (hlow : ∀ k, m0 ≤ k → k < b → (∀ l, k < l → l < b → (Z k (p l)).natAbs ≤ (Z l (p l)).natAbs) ∧ ∀ c, c < n → (Z k c).natAbs ≤ C c)
    (hx : ∀ l, m0 ≤ l → l < b → (pr_kS Z p b t m0 i (p l)).natAbs ≤ x * (Z l (p l)).natAbs) (hX : ∀ c, c < n → (pr_kS Z p b t m0 i c).natAbs ≤ X c) :
    ∀ d, m0 + d ≤ b → (∀ l, m0 + d ≤ l → l < b → (pr_kS Z p b t (m0 + d) i (p l)).natAbs ≤ (2 ^ d * x) * (Z l (p l)).natAbs) ∧ ∀ c, c < n → (pr_kS Z p b t (m0 + d) i c).natAbs ≤ X c + (2 ^ d - 1) * x * C c := by
  intro d
  induction d with
  | zero =>
    intro _
    refine ⟨fun l h1 h2 => ?_, fun c hc => ?_⟩
    · have := hx l h1 h2; simpa using this
    · have := hX c hc; simpa using this
  | succ d ih =>
    intro hd
    obtain ⟨a1, a2⟩ := ih (by omega)
    have hk : m0 + d < b := by omega
    have hpv : pr_kS Z p b t (m0 + d) (m0 + d) (p (m0 + d)) = Z (m0 + d) (p (m0 + d)) := pr_kS_stay hE (m0 + d) (by omega) (m0 + d) _ hk (Nat.le_refl _)
    have hrw : pr_kS Z p b t (m0 + d) (m0 + d) = Z (m0 + d) := pr_kS_row (m0 + d) (m0 + d) (by omega) (by omega)
    have hq : (pr_kS Z p b t (m0 + d) i (p (m0 + d)) / Z (m0 + d) (p (m0 + d))).natAbs ≤ 2 ^ d * x := pr_qle (hE.2.2.2 _ hk) (a1 (m0 + d) (Nat.le_refl _) hk)
    have step : ∀ c, pr_kS Z p b t (m0 + (d + 1)) i c = pr_kS Z p b t (m0 + d) i c ∨ pr_kS Z p b t (m0 + (d + 1)) i c = pr_kS Z p b t (m0 + d) i c - (pr_kS Z p b t (m0 + d) i (p (m0 + d)) / Z (m0 + d) (p (m0 + d))) * Z (m0 + d) c := by
      intro c
      show pr_ks (pr_kS Z p b t (m0 + d)) p b t (m0 + d) i c = _ ∨ pr_ks (pr_kS Z p b t (m0 + d)) p b t (m0 + d) i c = _
      unfold pr_ks
      split
      · rw [hrw]; exact Or.inr rfl
      · exact Or.inl rfl
    have hp2 : 2 ^ (d + 1) = 2 ^ d + 2 ^ d := by rw [Nat.pow_succ]; omega
    have hpos : 1 ≤ 2 ^ d := Nat.one_le_two_pow
    refine ⟨fun l h1 h2 => ?_, fun c hc => ?_⟩
    · have b1 := a1 l (by omega) h2
      have b2 := (hlow (m0 + d) (by omega) hk).1 l (by omega) h2
      have e1 : 2 ^ (d + 1) * x * (Z l (p l)).natAbs = 2 ^ d * x * (Z l (p l)).natAbs + 2 ^ d * x * (Z l (p l)).natAbs := by rw [hp2]; grind
      rcases step (p l) with e | e
      · rw [e, e1]; omega
      · rw [e, e1]; exact pr_sub_le b1 hq b2
    · have b1 := a2 c hc
      have b2 := (hlow (m0 + d) (by omega) hk).2 c hc
      have e1 : (2 ^ (d + 1) - 1) * x * C c = (2 ^ d - 1) * x * C c + 2 ^ d * x * C c := by
        rw [show 2 ^ (d + 1) - 1 = (2 ^ d - 1) + 2 ^ d by omega]; grind
      rcases step c with e | e
      · rw [e, e1]; omega
      · rw [e, e1]
        have := pr_sub_le b1 hq b2
        omega
