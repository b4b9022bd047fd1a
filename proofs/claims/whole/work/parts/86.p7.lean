/-! What keepSmall keeps, and what it makes. -/
theorem pr_ki_step {Z : Nat → Nat → Int} {p : Nat → Nat} {b t k i : Nat} (hk : k < b) : pr_ki Z p b t k (i + 1) = if i < k ∨ (b ≤ i ∧ i ≤ t) then pr_zt (pr_ki Z p b t k i) i k (Z i (p k) / Z k (p k)) else pr_ki Z p b t k i := by
  have ei : pr_ki Z p b t k i i = Z i := by funext c; simp [pr_ki]
  have ek : pr_ki Z p b t k i k = Z k := by funext c; unfold pr_ki; rw [if_neg (by omega)]
  by_cases hyes : i < k ∨ (b ≤ i ∧ i ≤ t)
  · rw [if_pos hyes]
    funext i' c
    unfold pr_zt
    by_cases e1 : i' = i
    · subst e1
      rw [if_pos rfl, ei, ek]
      unfold pr_ki
      rw [if_pos ⟨by omega, hyes⟩]
    · rw [if_neg e1]
      unfold pr_ki
      by_cases e2 : i' < i ∧ (i' < k ∨ (b ≤ i' ∧ i' ≤ t))
      · rw [if_pos e2, if_pos ⟨by omega, e2.2⟩]
      · rw [if_neg e2, if_neg (fun q => e2 ⟨by omega, q.2⟩)]
  · rw [if_neg hyes]
    funext i' c
    unfold pr_ki
    by_cases e1 : i' = i
    · subst e1; rw [if_neg (fun q => hyes q.2), if_neg (fun q => hyes q.2)]
    · by_cases e2 : i' < i ∧ (i' < k ∨ (b ≤ i' ∧ i' ≤ t))
      · rw [if_pos e2, if_pos ⟨by omega, e2.2⟩]
      · rw [if_neg e2, if_neg (fun q => e2 ⟨by omega, q.2⟩)]
theorem pr_ks_op {n : Nat} (Z : Nat → Nat → Int) {p : Nat → Nat} {b t k : Nat} (hk : k < b) (hbt : b ≤ t + 1) (ht : t < 4) : (∀ m, t < m → hn_Same n m Z (pr_ks Z p b t k)) ∧ pr_Det Z (pr_ks Z p b t k) := by
  rw [← pr_ki_end hk hbt]
  have key : ∀ i, i ≤ t + 1 → (∀ m, t < m → hn_Same n m Z (pr_ki Z p b t k i)) ∧ pr_Det Z (pr_ki Z p b t k i) := by
    intro i
    induction i with
    | zero =>
      intro _
      have e0 : pr_ki Z p b t k 0 = Z := by funext i c; simp [pr_ki]
      rw [e0]; exact ⟨fun _ _ => hn_Same_rf, pr_Det_rf⟩
    | succ i ih =>
      intro hi
      obtain ⟨a, d⟩ := ih (by omega)
      rw [pr_ki_step hk]
      split
      · exact ⟨fun m hm => hn_Same_tr (a m hm) (pr_Same_t _ _ (by omega) (by omega) (by omega)), pr_Det_tr d (pr_Det_t _ _ (by omega) (by omega) (by omega))⟩
      · exact ⟨a, d⟩
  exact key (t + 1) (Nat.le_refl _)
/-- rows 0 .. b - 1 are stairs -/
def pr_Ech (n b : Nat) (p : Nat → Nat) (Z : Nat → Nat → Int) : Prop :=
  (∀ i, i < b → p i < n) ∧ (∀ i k, i < k → k < b → p i < p k) ∧ (∀ i j, i < b → j < p i → Z i j = 0) ∧ (∀ i, i < b → 0 < Z i (p i))
theorem pr_kS_pre {Z : Nat → Nat → Int} {p : Nat → Nat} {b t : Nat} {i c0 : Nat} (hz : ∀ k j, k < b → j < p k → Z k j = 0) (hp : ∀ i k, i < k → k < b → p i < p k) (h : ∀ c, c < c0 → Z i c = 0) : ∀ m, m ≤ b → (∀ k j, k < b → j < p k → pr_kS Z p b t m k j = 0) ∧ ∀ c, c < c0 → pr_kS Z p b t m i c = 0 := by
  intro m
  induction m with
  | zero => intro _; exact ⟨hz, h⟩
  | succ m ih =>
    intro hm
    obtain ⟨a, d⟩ := ih (by omega)
    constructor
    · intro k j hk hj
      show pr_ks (pr_kS Z p b t m) p b t m k j = 0
      unfold pr_ks
      by_cases e : k < m ∨ (b ≤ k ∧ k ≤ t)
      · rw [if_pos e]
        rcases e with e | e
        · have h1 := hp k m e (by omega)
          rw [a k j hk hj, a m j (by omega) (by omega)]; simp
        · omega
      · rw [if_neg e]; exact a k j hk hj
    · intro c hc
      show pr_ks (pr_kS Z p b t m) p b t m i c = 0
      unfold pr_ks
      by_cases e : i < m ∨ (b ≤ i ∧ i ≤ t)
      · rw [if_pos e, d c hc]
        rcases Nat.lt_or_ge (p m) c0 with q | q
        · rw [d (p m) q]; simp
        · rw [a m c (by omega) (by omega)]; simp
      · rw [if_neg e]; exact d c hc
/-- up to its beginning, a base row stays -/
theorem pr_kS_stay {n : Nat} {Z : Nat → Nat → Int} {p : Nat → Nat} {b t : Nat} (hE : pr_Ech n b p Z) : ∀ m, m ≤ b → ∀ i j, i < b → j ≤ p i → pr_kS Z p b t m i j = Z i j := by
  intro m
  induction m with
  | zero => intro _ i j _ _; rfl
  | succ m ih =>
    intro hm i j hi hj
    show pr_ks (pr_kS Z p b t m) p b t m i j = Z i j
    unfold pr_ks
    by_cases e : i < m ∨ (b ≤ i ∧ i ≤ t)
    · rw [if_pos e]
      rcases e with e | e
      · have h1 := hE.2.1 i m e (by omega)
        rw [ih (by omega) i j hi hj, ih (by omega) m j (by omega) (by omega), hE.2.2.1 m j (by omega) (by omega)]; simp
      · omega
    · rw [if_neg e]; exact ih (by omega) i j hi hj
/-- a row that no base row beyond has touched yet stays whole -/
theorem pr_kS_row {Z : Nat → Nat → Int} {p : Nat → Nat} {b t : Nat} : ∀ m, ∀ i, m ≤ i + 1 → ¬ (b ≤ i ∧ i ≤ t) → pr_kS Z p b t m i = Z i := by
  intro m
  induction m with
  | zero => intro i _ _; rfl
  | succ m ih =>
    intro i hi hno
    funext c
    show pr_ks (pr_kS Z p b t m) p b t m i c = Z i c
    unfold pr_ks
    rw [if_neg (by omega), ih i (by omega) hno]
/-- below the beginnings that were met -/
theorem pr_kS_red {n : Nat} {Z : Nat → Nat → Int} {p : Nat → Nat} {b t : Nat} (hE : pr_Ech n b p Z) : ∀ m, m ≤ b → ∀ j, j < m → ∀ i, (i < j ∨ (b ≤ i ∧ i ≤ t)) → 0 ≤ pr_kS Z p b t m i (p j) ∧ pr_kS Z p b t m i (p j) < Z j (p j) := by
  intro m
  induction m with
  | zero => intro _ j hj; omega
  | succ m ih =>
    intro hm j hj i hi
    show 0 ≤ pr_ks (pr_kS Z p b t m) p b t m i (p j) ∧ pr_ks (pr_kS Z p b t m) p b t m i (p j) < Z j (p j)
    have hpm : pr_kS Z p b t m m (p m) = Z m (p m) := pr_kS_stay hE m (by omega) m (p m) (by omega) (Nat.le_refl _)
    have hpos := hE.2.2.2 m (by omega)
    rcases Nat.lt_or_ge j m with q | q
    · have h1 := ih (by omega) j q i hi
      have h2 := hE.2.1 j m q (by omega)
      have h3 : pr_kS Z p b t m m (p j) = 0 := by
        rw [pr_kS_stay hE m (by omega) m (p j) (by omega) (by omega)]
        exact hE.2.2.1 m (p j) (by omega) h2
      unfold pr_ks
      split
      · rw [h3]; simpa using h1
      · exact h1
    · have : j = m := by omega
      subst this
      unfold pr_ks
      rw [if_pos hi, hpm]
      have e1 := Int.emod_def (pr_kS Z p b t j i (p j)) (Z j (p j))
      have e2 : pr_kS Z p b t j i (p j) / Z j (p j) * Z j (p j) = Z j (p j) * (pr_kS Z p b t j i (p j) / Z j (p j)) := Int.mul_comm _ _
      rw [e2, ← e1]
      exact ⟨Int.emod_nonneg _ (by omega), Int.emod_lt_of_pos _ hpos⟩
theorem pr_kS_op {n : Nat} (Z : Nat → Nat → Int) {p : Nat → Nat} {b t : Nat} (hbt : b ≤ t + 1) (ht : t < 4) : ∀ m, m ≤ b → (∀ k, t < k → hn_Same n k Z (pr_kS Z p b t m)) ∧ pr_Det Z (pr_kS Z p b t m) := by
  intro m
  induction m with
  | zero => intro _; exact ⟨fun _ _ => hn_Same_rf, pr_Det_rf⟩
  | succ m ih =>
    intro hm
    obtain ⟨a, d⟩ := ih (by omega)
    obtain ⟨a2, d2⟩ := pr_ks_op (n := n) (pr_kS Z p b t m) (p := p) (b := b) (t := t) (k := m) (by omega) hbt ht
    exact ⟨fun k hk => hn_Same_tr (a k hk) (a2 k hk), pr_Det_tr d d2⟩
/-- behind keepSmall: a BASE -/
theorem pr_kS_base {n : Nat} {Z : Nat → Nat → Int} {p : Nat → Nat} {b t : Nat} (hE : pr_Ech n b p Z) : hn_Base n b p (pr_kS Z p b t b) := by
  have hst := pr_kS_stay (t := t) hE b (Nat.le_refl _)
  refine ⟨hE.1, hE.2.1, fun i j hi hj => ?_, fun i hi => ?_, fun i k hik hk => ?_⟩
  · rw [hst i j hi (by omega)]; exact hE.2.2.1 i j hi hj
  · rw [hst i (p i) hi (Nat.le_refl _)]; exact hE.2.2.2 i hi
  · have h1 := pr_kS_red (t := t) hE b (Nat.le_refl _) k hk i (Or.inl hik)
    rw [hst k (p k) hk (Nat.le_refl _)]
    exact h1
