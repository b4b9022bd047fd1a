/-! insert of the reference: what holds between its steps. -/
def mi_V : Nat → Nat
  | 0 => 750
  | 1 => 3375000
  | 2 => 15187500000
  | _ => 68343750000000
theorem mi_Vs {s : Nat} (h : s < 3) : mi_V (s + 1) = 4500 * mi_V s ∧ mi_V s ≤ mi_V (s + 1) := by
  rcases (show s = 0 ∨ s = 1 ∨ s = 2 by omega) with rfl | rfl | rfl <;> decide
theorem mi_Vb (s : Nat) : 1 ≤ mi_V s ∧ mi_V s ≤ 68343750000000 := by
  match s with
  | 0 => decide
  | 1 => decide
  | 2 => decide
  | _ + 3 => exact ⟨(by decide : 1 ≤ 68343750000000), Nat.le_refl _⟩
theorem mi_Ts {n t : Nat} {p T : Nat → Nat} {Z : Nat → Nat → Int} (h : pr_Start n t p T Z) {s : Nat} (hs : s < t) : T (s + 1) ≤ T s ∧ (Z s (p s)).natAbs ≤ T s := by
  have e := h.2.2.2.2.2.1 s hs
  have a := (pr_T h (s + 1) (by omega)).1
  have b := (pr_piv h hs).1
  constructor
  · rw [e]
    have : 1 * T (s + 1) ≤ (Z s (p s)).natAbs * T (s + 1) := Nat.mul_le_mul_right _ b
    omega
  · rw [e]
    have : (Z s (p s)).natAbs * 1 ≤ (Z s (p s)).natAbs * T (s + 1) := Nat.mul_le_mul_left _ a
    omega
theorem mi_Tm {n t : Nat} {p T : Nat → Nat} {Z : Nat → Nat → Int} (h : pr_Start n t p T Z) {s : Nat} : ∀ d, s + d < t → (Z (s + d) (p (s + d))).natAbs ≤ T s ∧ T (s + d) ≤ T s := by
  intro d
  induction d with
  | zero => intro hd; exact ⟨(mi_Ts h hd).2, Nat.le_refl _⟩
  | succ d ih =>
    intro hd
    have a := (ih (by omega)).2
    have b := (mi_Ts h (s := s + d) (by omega)).1
    have c := (mi_Ts h (s := s + d + 1) (by omega)).2
    have e : s + (d + 1) = s + d + 1 := by omega
    rw [e]
    exact ⟨by omega, by omega⟩
theorem mi_B1 {Z : Nat → Nat → Int} {κ s x C : Nat} : ∀ k, s ≤ k → (∀ l, s ≤ l → l < k → (Z l x).natAbs ≤ C) → mi_B Z κ s x k + κ * C ≤ κ * 2 ^ (k - s) * C := by
  intro k
  induction k with
  | zero => intro h _; rw [show s = 0 by omega, mi_B]; simp
  | succ k ih =>
    intro h hC
    rcases Nat.eq_or_lt_of_le h with z | z
    · rw [mi_B0 (k + 1) (by omega), ← z, Nat.sub_self]; simp
    · have a := ih (by omega) (fun l p q => hC l p (by omega))
      have b := hC k (by omega) (by omega)
      rw [mi_B, if_pos (by omega)]
      have c : κ * 2 ^ (k - s) * (Z k x).natAbs ≤ κ * 2 ^ (k - s) * C := Nat.mul_le_mul_left _ b
      have d : κ * 2 ^ (k + 1 - s) * C = κ * 2 ^ (k - s) * C + κ * 2 ^ (k - s) * C := by
        rw [show k + 1 - s = (k - s) + 1 by omega, Nat.pow_succ]; grind
      omega
theorem mi_B2 {Z : Nat → Nat → Int} {κ s x C : Nat} : ∀ k, s + 1 ≤ k → (∀ l, s < l → l < k → (Z l x).natAbs ≤ C) → mi_B Z κ s x k + κ * 2 * C ≤ κ * (Z s x).natAbs + κ * 2 ^ (k - s) * C := by
  intro k
  induction k with
  | zero => intro h _; omega
  | succ k ih =>
    intro h hC
    rcases Nat.eq_or_lt_of_le h with z | z
    · have : s = k := by omega
      subst this
      rw [mi_B, if_pos (Nat.le_refl _), mi_B0 s (Nat.le_refl _), Nat.sub_self, show s + 1 - s = 1 by omega]; simp
    · have a := ih (by omega) (fun l p q => hC l p (by omega))
      have b := hC k (by omega) (by omega)
      rw [mi_B, if_pos (by omega)]
      have c : κ * 2 ^ (k - s) * (Z k x).natAbs ≤ κ * 2 ^ (k - s) * C := Nat.mul_le_mul_left _ b
      have d : κ * 2 ^ (k + 1 - s) * C = κ * 2 ^ (k - s) * C + κ * 2 ^ (k - s) * C := by
        rw [show k + 1 - s = (k - s) + 1 by omega, Nat.pow_succ]; grind
      omega
/-- the first s stairs may be others, the row has been cleared up to c -/
def mi_Inv (r : Nat) (p T : Nat → Nat) (Z0 : Nat → Nat → Int) (s c : Nat) (Z : Nat → Nat → Int) : Prop :=
  hn_Base 8 r p Z ∧ (∀ l, s ≤ l → l < r → Z l = Z0 l) ∧ (∀ k, r < k → hn_Same 8 k Z0 Z) ∧ (∀ j, j < c → Z r j = 0) ∧ (∀ j, j < 8 → (Z r j).natAbs ≤ mi_V s) ∧ (∀ i j, i < s → j < 8 → (Z i j).natAbs * T s ≤ s * 52000000000000000)
theorem mi_Inv0 {r : Nat} {p T : Nat → Nat} {Z : Nat → Nat → Int} (h : pr_Start 8 r p T Z) : mi_Inv r p T Z 0 0 Z :=
  ⟨h.2.2.1, fun _ _ _ => rfl, fun _ _ => hn_Same_rf, fun j hj => by omega, h.2.2.2.2.1, fun i j hi => by omega⟩
theorem mi_skip {r : Nat} {p T : Nat → Nat} {Z0 Z : Nat → Nat → Int} {s c : Nat} (h : mi_Inv r p T Z0 s c Z) (hz : Z r c = 0) : mi_Inv r p T Z0 s (c + 1) Z := by
  refine ⟨h.1, h.2.1, h.2.2.1, fun j hj => ?_, h.2.2.2.2.1, h.2.2.2.2.2⟩
  rcases Nat.eq_or_lt_of_le (Nat.le_of_lt_succ hj) with z | z
  · rw [z]; exact hz
  · exact h.2.2.2.1 j z
set_option maxRecDepth 100000 in
theorem mi_skipB {r : Nat} {p T : Nat → Nat} {Z0 Z : Nat → Nat → Int} {s : Nat} (h0 : pr_Start 8 r p T Z0) (hs : s < r) (h : mi_Inv r p T Z0 s (p s) Z) (hz : Z r (p s) = 0) : mi_Inv r p T Z0 (s + 1) (p s + 1) Z := by
  have hr := h0.2.1
  obtain ⟨a1, a2, a3, a4, a5, a6⟩ := mi_skip h hz
  refine ⟨a1, fun l x y => a2 l (by omega) y, a3, a4, fun j hj => Nat.le_trans (a5 j hj) (mi_Vs (by omega)).2, fun i j hi hj => ?_⟩
  have t1 := mi_Ts h0 hs
  rcases Nat.eq_or_lt_of_le (Nat.le_of_lt_succ hi) with z | z
  · rw [z, a2 s (Nat.le_refl _) hs]
    have b := h0.2.2.2.1 s j hs hj
    have t2 := (pr_T h0 (s + 1) (by omega)).2
    have : (Z0 s j).natAbs * T (s + 1) ≤ 3750 * 750 := Nat.mul_le_mul b t2
    omega
  · have b := a6 i j z hj
    have : (Z i j).natAbs * T (s + 1) ≤ (Z i j).natAbs * T s := Nat.mul_le_mul_left _ t1.1
    omega
set_option maxRecDepth 100000 in
theorem mi_R {r : Nat} {p T : Nat → Nat} {Z0 Z : Nat → Nat → Int} {s c : Nat} (h0 : pr_Start 8 r p T Z0) (hs : s ≤ r) (h : mi_Inv r p T Z0 s c Z) {i j : Nat} (hi : i < s) (hj : j < 8) : (Z i j).natAbs ≤ 156000000000000000 := by
  have hr := h0.2.1
  have a := h.2.2.2.2.2 i j hi hj
  have t := (pr_T h0 s hs).1
  have : (Z i j).natAbs * 1 ≤ (Z i j).natAbs * T s := Nat.mul_le_mul_left _ t
  have : s * 52000000000000000 ≤ 3 * 52000000000000000 := Nat.mul_le_mul_right _ (by omega)
  omega
/-- which rows settle changes behind Euclid's steps at stair s, and how often a stair is taken away at most -/
def mi_S1 (r s : Nat) : Nat → Nat := fun i => if i < s then s else if i = s then s + 1 else r
def mi_k1 (A s : Nat) : Nat → Nat := fun i => if i < s then A else if i = s then 4500 * mi_V s else 0
set_option maxHeartbeats 1000000 in
set_option maxRecDepth 100000 in
theorem mi_stage {r : Nat} {p T : Nat → Nat} {Z0 Z Z1 : Nat → Nat → Int} {s : Nat} (h0 : pr_Start 8 r p T Z0) (hs : s < r) (hI : mi_Inv r p T Z0 s (p s) Z) (h1 : pr_Cl 8 Z Z1 s r (p s)) :
    pr_Ech 8 r p Z1 ∧ (∀ i, i < r → i < mi_S1 r s i) ∧ (∀ i, i < r → mi_K r p Z1 i (mi_S1 r s i) (mi_k1 (Z0 s (p s)).natAbs s i)) ∧ (∀ l, l < r → (Z1 l (p l)).natAbs < 2305843009213693952) ∧
    ∀ Z2, hn_Base 8 r p Z2 → (∀ i, r ≤ i → Z2 i = Z1 i) → (∀ k, r ≤ k → hn_Same 8 k Z1 Z2) → (∀ i, i < r → (r ≤ mi_S1 r s i → Z2 i = Z1 i) ∧ ∀ x, x < 8 → (Z2 i x).natAbs ≤ (Z1 i x).natAbs + mi_B Z2 (mi_k1 (Z0 s (p s)).natAbs s i) (mi_S1 r s i) x r) → mi_Inv r p T Z0 (s + 1) (p s + 1) Z2 := by
  have hr := h0.2.1
  obtain ⟨hB, hlow, hSm, hz, hV, hG⟩ := id hI
  obtain ⟨c1, c2, c3, ⟨α, c4⟩, c5, c6, -⟩ := h1
  have hps := hB.1 s hs
  have pvs := pr_piv h0 hs
  have eqs : Z s = Z0 s := hlow s (Nat.le_refl _) hs
  have hph : ∀ j, j < 8 → pr_Phi Z s r (p s) j ≤ 4500 * mi_V s := by
    intro j hj
    unfold pr_Phi
    rw [eqs]
    have a := h0.2.2.2.1 s j hs hj
    have b := hV (p s) hps
    have c := hV j hj
    have x1 : (Z0 s j).natAbs * (Z r (p s)).natAbs ≤ 3750 * mi_V s := Nat.mul_le_mul a b
    have x2 : (Z r j).natAbs * (Z0 s (p s)).natAbs ≤ mi_V s * 750 := Nat.mul_le_mul c pvs.2
    omega
  have hph0 : ∀ j, j < p s → pr_Phi Z s r (p s) j = 0 := by
    intro j hj
    unfold pr_Phi
    rw [hB.2.2.1 s j hs hj, hz j hj]; simp
  have ea : ∀ i, i < r → i ≠ s → Z1 i = Z i := fun i hi hne => c1 i hne (by omega)
  have a1 : 1 ≤ (Z1 s (p s)).natAbs ∧ (Z1 s (p s)).natAbs ≤ (Z0 s (p s)).natAbs := by
    refine ⟨by omega, ?_⟩
    rw [eqs] at c4
    rw [c4, Int.natAbs_mul]
    have hα : α ≠ 0 := fun e => by rw [e, Int.zero_mul] at c4; rw [c4] at pvs; omega
    have : 1 * (Z1 s (p s)).natAbs ≤ α.natAbs * (Z1 s (p s)).natAbs := Nat.mul_le_mul_right _ (by omega)
    omega
  have eE : pr_Ech 8 r p Z1 := by
    refine ⟨hB.1, hB.2.1, fun i j hi hj => ?_, fun i hi => ?_⟩
    · by_cases e : i = s
      · subst e
        have := (c5 j (by omega)).1
        rw [hph0 j hj] at this; omega
      · rw [ea i hi e]; exact hB.2.2.1 i j hi hj
    · by_cases e : i = s
      · subst e; exact c3
      · rw [ea i hi e]; exact hB.2.2.2.1 i hi
  have pl : ∀ l, s < l → l < r → Z1 l = Z0 l := fun l x y => by rw [ea l y (by omega)]; exact hlow l (by omega) y
  have pl2 : ∀ l, s < l → l < r → 1 ≤ (Z1 l (p l)).natAbs ∧ (Z1 l (p l)).natAbs ≤ 750 := fun l x y => by rw [pl l x y]; exact pr_piv h0 y
  have hVb := mi_Vb s
  refine ⟨eE, fun i hi => ?_, fun i hi => ?_, fun l hl => ?_, fun Z2 hB2 hge hSm2 hb => ?_⟩
  · unfold mi_S1; split
    · assumption
    · split <;> omega
  · rcases Nat.lt_trichotomy i s with z | z | z
    · have e1 : mi_S1 r s i = s := by simp [mi_S1, z]
      have e2 : mi_k1 (Z0 s (p s)).natAbs s i = (Z0 s (p s)).natAbs := by simp [mi_k1, z]
      rw [e1, e2]
      refine ⟨fun l x y w => ?_, fun l x y w => ?_, fun l x y w => Or.inr ?_⟩
      · rw [ea i hi (by omega), ea l y (by omega)]; exact hB.2.2.2.2 i l x y
      · rw [ea i hi (by omega)]
        have b := hB.2.2.2.2 i l x w
        rcases Nat.eq_or_lt_of_le y with q | q
        · subst q
          rw [eqs] at b
          have : (Z0 s (p s)).natAbs * 1 ≤ (Z0 s (p s)).natAbs * (Z1 s (p s)).natAbs := Nat.mul_le_mul_left _ a1.1
          omega
        · rw [pl l q w]
          rw [hlow l y w] at b
          have : 1 * (Z0 l (p l)).natAbs ≤ (Z0 s (p s)).natAbs * (Z0 l (p l)).natAbs := Nat.mul_le_mul_right _ pvs.1
          omega
      · have b : (Z1 l (p l)).natAbs ≤ 750 := by
          rcases Nat.eq_or_lt_of_le y with q | q
          · subst q; omega
          · exact (pl2 l q w).2
        have c : 2 ^ (l - s) ≤ 2 ^ 2 := Nat.pow_le_pow_right (by decide) (by omega)
        have d : (Z0 s (p s)).natAbs * 2 ^ (l - s) * (Z1 l (p l)).natAbs ≤ 750 * 2 ^ 2 * 750 := Nat.mul_le_mul (Nat.mul_le_mul pvs.2 c) b
        omega
    · subst z
      have e1 : mi_S1 r i i = i + 1 := by simp [mi_S1]
      have e2 : mi_k1 (Z0 i (p i)).natAbs i i = 4500 * mi_V i := by simp [mi_k1]
      rw [e1, e2]
      refine ⟨fun l x y w => by omega, fun l x y w => ?_, fun l x y w => Or.inr ?_⟩
      · have b := (c5 (p l) (hB.1 l w)).1
        have c := hph (p l) (hB.1 l w)
        have d := (pl2 l x w).1
        have : 4500 * mi_V i * 1 ≤ 4500 * mi_V i * (Z1 l (p l)).natAbs := Nat.mul_le_mul_left _ d
        omega
      · have b := (pl2 l x w).2
        have c : 2 ^ (l - (i + 1)) ≤ 2 ^ 1 := Nat.pow_le_pow_right (by decide) (by omega)
        have hv1 : mi_V i ≤ 3375000 := by rcases (show i = 0 ∨ i = 1 by omega) with rfl | rfl <;> decide
        have d : 4500 * mi_V i * 2 ^ (l - (i + 1)) * (Z1 l (p l)).natAbs ≤ 4500 * 3375000 * 2 ^ 1 * 750 := Nat.mul_le_mul (Nat.mul_le_mul (Nat.mul_le_mul_left _ hv1) c) b
        omega
    · have e1 : mi_S1 r s i = r := by simp [mi_S1, show ¬ i < s by omega, show ¬ i = s by omega]
      rw [e1]
      refine ⟨fun l x y w => ?_, fun l x y w => by omega, fun l x y w => by omega⟩
      rw [ea i hi (by omega), ea l y (by omega)]; exact hB.2.2.2.2 i l x y
  · rcases Nat.lt_trichotomy l s with z | z | z
    · rw [ea l hl (by omega)]
      have := mi_R h0 (by omega) hI z (hB.1 l hl)
      omega
    · subst z; omega
    · have := pl2 l z hl; omega
  · have hgt : ∀ l, s < l → l < r → Z2 l = Z0 l := by
      intro l x y
      rw [(hb l y).1 (by simp [mi_S1, show ¬ l < s by omega, show ¬ l = s by omega])]
      exact pl l x y
    have hC : ∀ j, j < 8 → ∀ l, s < l → l < r → (Z2 l j).natAbs ≤ 3750 := fun j hj l x y => by rw [hgt l x y]; exact h0.2.2.2.1 l j y hj
    have t1 := mi_Ts h0 hs
    have t2 := pr_T h0 (s + 1) (by omega)
    have t3 := pr_T h0 s (by omega)
    have tE := h0.2.2.2.2.2.1 s hs
    -- row s
    have hW : ∀ j, j < 8 → (Z2 s j).natAbs ≤ 68343750000000 := by
      intro j hj
      have b := (hb s hs).2 j hj
      have e1 : mi_S1 r s s = s + 1 := by simp [mi_S1]
      have e2 : mi_k1 (Z0 s (p s)).natAbs s s = 4500 * mi_V s := by simp [mi_k1]
      rw [e1, e2] at b
      have c := mi_B1 (Z := Z2) (κ := 4500 * mi_V s) (s := s + 1) (x := j) (C := 3750) r (by omega) (fun l x y => hC j hj l (by omega) y)
      have d := (c5 j hj).1
      have d2 := hph j hj
      rcases (show s = 0 ∨ s = 1 ∨ s = 2 by omega) with rfl | rfl | rfl
      · have k1 : 2 ^ (r - (0 + 1)) ≤ 2 ^ 2 := Nat.pow_le_pow_right (by decide) (by omega)
        have k2 : 4500 * mi_V 0 * 2 ^ (r - (0 + 1)) * 3750 ≤ 4500 * mi_V 0 * 2 ^ 2 * 3750 := Nat.mul_le_mul_right _ (Nat.mul_le_mul_left _ k1)
        have k3 : mi_V 0 = 750 := rfl
        omega
      · have k1 : 2 ^ (r - (1 + 1)) ≤ 2 ^ 1 := Nat.pow_le_pow_right (by decide) (by omega)
        have k2 : 4500 * mi_V 1 * 2 ^ (r - (1 + 1)) * 3750 ≤ 4500 * mi_V 1 * 2 ^ 1 * 3750 := Nat.mul_le_mul_right _ (Nat.mul_le_mul_left _ k1)
        have k3 : mi_V 1 = 3375000 := rfl
        omega
      · have k0 : r = 3 := by omega
        rw [mi_B0 r (by omega)] at b
        have k3 : mi_V 2 = 15187500000 := rfl
        omega
    refine ⟨hB2, fun l x y => hgt l (by omega) y, fun k hk => hn_Same_tr (hSm k hk) (hn_Same_tr (c6 k (by omega) hk) (hSm2 k (by omega))), fun j hj => ?_, fun j hj => ?_, fun i j hi hj => ?_⟩
    · rw [hge r (Nat.le_refl _)]
      rcases Nat.eq_or_lt_of_le (Nat.le_of_lt_succ hj) with z | z
      · rw [z]; exact c2
      · have := (c5 j (by omega)).2
        rw [hph0 j z] at this; omega
    · rw [hge r (Nat.le_refl _), (mi_Vs (by omega)).1]
      exact Nat.le_trans (c5 j hj).2 (hph j hj)
    · rcases Nat.eq_or_lt_of_le (Nat.le_of_lt_succ hi) with z | z
      · rw [z]
        have : (Z2 s j).natAbs * T (s + 1) ≤ 68343750000000 * 750 := Nat.mul_le_mul (hW j hj) t2.2
        omega
      · have b := (hb i (by omega)).2 j hj
        have e1 : mi_S1 r s i = s := by simp [mi_S1, z]
        have e2 : mi_k1 (Z0 s (p s)).natAbs s i = (Z0 s (p s)).natAbs := by simp [mi_k1, z]
        rw [e1, e2, ea i (by omega) (by omega)] at b
        have c := mi_B2 (Z := Z2) (κ := (Z0 s (p s)).natAbs) (s := s) (x := j) (C := 3750) r (by omega) (fun l x y => hC j hj l x y)
        have k1 : 2 ^ (r - s) ≤ 2 ^ 3 := Nat.pow_le_pow_right (by decide) (by omega)
        have k2 : (Z0 s (p s)).natAbs * 2 ^ (r - s) * 3750 ≤ (Z0 s (p s)).natAbs * 2 ^ 3 * 3750 := Nat.mul_le_mul_right _ (Nat.mul_le_mul_left _ k1)
        have k3 : (Z0 s (p s)).natAbs * (Z2 s j).natAbs ≤ (Z0 s (p s)).natAbs * 68343750000000 := Nat.mul_le_mul_left _ (hW j hj)
        have k4 : (Z2 i j).natAbs ≤ (Z i j).natAbs + (Z0 s (p s)).natAbs * 68343750030000 := by omega
        have k5 : (Z2 i j).natAbs * T (s + 1) ≤ ((Z i j).natAbs + (Z0 s (p s)).natAbs * 68343750030000) * T (s + 1) := Nat.mul_le_mul_right _ k4
        have k6 : ((Z i j).natAbs + (Z0 s (p s)).natAbs * 68343750030000) * T (s + 1) = (Z i j).natAbs * T (s + 1) + (Z0 s (p s)).natAbs * T (s + 1) * 68343750030000 := by grind
        rw [← tE] at k6
        have k7 : T s * 68343750030000 ≤ 750 * 68343750030000 := Nat.mul_le_mul_right _ t3.2
        have k8 := hG i j z hj
        have k9 : (Z i j).natAbs * T (s + 1) ≤ (Z i j).natAbs * T s := Nat.mul_le_mul_left _ t1.1
        omega
