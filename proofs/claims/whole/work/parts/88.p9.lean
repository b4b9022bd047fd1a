/-! One row is taken into a base: what holds between its steps. -/
/-- at the start: t rows are a base, small; the newest, row t, is small -/
def pr_Start (n t : Nat) (p : Nat → Nat) (T : Nat → Nat) (Z : Nat → Nat → Int) : Prop :=
  n ≤ 8 ∧ t ≤ 3 ∧ hn_Base n t p Z ∧ (∀ l j, l < t → j < n → (Z l j).natAbs ≤ 3750) ∧ (∀ j, j < n → (Z t j).natAbs ≤ 750) ∧ (∀ l, l < t → T l = (Z l (p l)).natAbs * T (l + 1)) ∧ T t = 1 ∧ T 0 ≤ 750
theorem pr_T {n t : Nat} {p T : Nat → Nat} {Z : Nat → Nat → Int} (h : pr_Start n t p T Z) : ∀ l, l ≤ t → 1 ≤ T l ∧ T l ≤ 750 := by
  obtain ⟨-, -, hB, -, -, hT, hTt, hT0⟩ := h
  have h1 : ∀ d l, l + d = t → 1 ≤ T l := by
    intro d
    induction d with
    | zero => intro l hl; rw [show l = t by omega, hTt]; exact Nat.le_refl _
    | succ d ih =>
      intro l hl
      have a := ih (l + 1) (by omega)
      have b := hB.2.2.2.1 l (by omega)
      rw [hT l (by omega)]
      have : 1 * 1 ≤ (Z l (p l)).natAbs * T (l + 1) := Nat.mul_le_mul (by omega) a
      omega
  have h2 : ∀ l, l ≤ t → T l ≤ 750 := by
    intro l
    induction l with
    | zero => intro _; exact hT0
    | succ l ih =>
      intro hl
      have a := ih (by omega)
      have b := hB.2.2.2.1 l (by omega)
      have c := hT l (by omega)
      have : 1 * T (l + 1) ≤ (Z l (p l)).natAbs * T (l + 1) := Nat.mul_le_mul_right _ (by omega)
      omega
  exact fun l hl => ⟨h1 (t - l) l (by omega), h2 l hl⟩
theorem pr_piv {n t : Nat} {p T : Nat → Nat} {Z : Nat → Nat → Int} (h : pr_Start n t p T Z) {l : Nat} (hl : l < t) : 1 ≤ (Z l (p l)).natAbs ∧ (Z l (p l)).natAbs ≤ 750 := by
  have a := pr_T h l (by omega)
  have b := (pr_T h (l + 1) (by omega)).1
  have c := h.2.2.1.2.2.2.1 l hl
  have d := h.2.2.2.2.2.1 l hl
  have : (Z l (p l)).natAbs * 1 ≤ (Z l (p l)).natAbs * T (l + 1) := Nat.mul_le_mul_left _ b
  omega
/-- between the steps: the first s base rows may be others, the newest has been cleared up to c -/
def pr_Inv (n t : Nat) (p T : Nat → Nat) (Z0 : Nat → Nat → Int) (s c : Nat) (Z : Nat → Nat → Int) : Prop :=
  hn_Base n t p Z ∧ (∀ l, s ≤ l → l < t → Z l = Z0 l) ∧ (∀ i, t < i → Z i = Z0 i) ∧ (∀ k, t < k → hn_Same 8 k Z0 Z) ∧ pr_Det Z0 Z ∧ (∀ j, j < c → Z t j = 0) ∧
  (∃ V, (∀ j, j < n → (Z t j).natAbs ≤ V) ∧ V * T s ≤ 562500 + s * 32000000000) ∧ (∀ l, s ≤ l → l < t → (Z t (p l)).natAbs ≤ 750 * (Z0 l (p l)).natAbs ∧ (Z t (p l)).natAbs ≤ 750) ∧ (∀ i j, i < s → j < n → (Z i j).natAbs ≤ 4000 + s * 200000000000000) ∧
  ((∀ l, s ≤ l → l < t → (Z t (p l)).natAbs ≤ (Z0 l (p l)).natAbs) ∨ ∀ i j, i < s → j < n → (Z i j).natAbs ≤ 4000)
theorem pr_Inv0 {n t : Nat} {p T : Nat → Nat} {Z : Nat → Nat → Int} (h : pr_Start n t p T Z) : pr_Inv n t p T Z 0 0 Z := by
  have hT := pr_T h 0 (by omega)
  refine ⟨h.2.2.1, fun _ _ _ => rfl, fun _ _ => rfl, fun _ _ => hn_Same_rf, pr_Det_rf, fun j hj => by omega, ⟨750, h.2.2.2.2.1, ?_⟩, fun l _ hl => ?_, fun i j hi => by omega, Or.inr (fun i j hi => by omega)⟩
  · have : 750 * T 0 ≤ 750 * 750 := Nat.mul_le_mul_left _ hT.2
    omega
  · have a := h.2.2.2.2.1 (p l) (h.2.2.1.1 l hl)
    have b := pr_piv h hl
    exact ⟨by omega, a⟩
set_option maxHeartbeats 1000000 in
set_option maxRecDepth 100000 in
/-- Euclid at the beginning of base row s, then keepSmall -/
theorem pr_stage {n t : Nat} {p T : Nat → Nat} {Z0 Z Z1 : Nat → Nat → Int} {s : Nat} (h0 : pr_Start n t p T Z0) (hs : s < t) (hI : pr_Inv n t p T Z0 s (p s) Z) (h1 : pr_Cl 8 Z Z1 s t (p s)) (hb0 : Z t (p s) ≠ 0) :
    pr_Ech n t p Z1 ∧ (∀ k, k < t → ∀ i, i ≤ t → pr_sm (pr_kS Z1 p t t k i (p k))) ∧ pr_Inv n t p T Z0 (s + 1) (p s + 1) (pr_kS Z1 p t t t) := by
  have hn8 := h0.1
  have ht3 := h0.2.1
  obtain ⟨hB, hlow, hhi, hSm, hDt, hz, ⟨V, hV, hVT⟩, hxv, hR, -⟩ := hI
  obtain ⟨c1, c2, c3, ⟨α, c4⟩, c5, c6, c7⟩ := h1
  have hZs : Z s = Z0 s := hlow s (Nat.le_refl _) hs
  have hps := h0.2.2.1.1 s hs
  have hpv := pr_piv h0 hs
  have hA : 0 < Z s (p s) := hB.2.2.2.1 s hs
  generalize ha : (Z0 s (p s)).natAbs = a at *
  have hAa : (Z s (p s)).natAbs = a := by rw [hZs]; exact ha
  have hb : (Z t (p s)).natAbs ≤ 750 := (hxv s (Nat.le_refl _) hs).2
  -- the new beginning is not above the old one
  have hg : Z1 s (p s) ≤ Z s (p s) := by
    have : 1 ≤ α := by
      rcases Int.lt_or_le 0 α with q | q
      · omega
      · have := Int.mul_nonpos_of_nonpos_of_nonneg q (Int.le_of_lt c3)
        omega
    have := Int.mul_le_mul_of_nonneg_right this (Int.le_of_lt c3)
    omega
  -- what Euclid's rows are at most
  have hPhi : ∀ j, j < n → pr_Phi Z s t (p s) j ≤ a * (2812500 + V) := by
    intro j hj
    unfold pr_Phi
    rw [hAa]
    have e1 : (Z s j).natAbs ≤ 3750 := by rw [hZs]; exact h0.2.2.2.1 s j hs hj
    have e2 : (Z s j).natAbs * (Z t (p s)).natAbs ≤ 3750 * 750 := Nat.mul_le_mul e1 hb
    have e3 : (Z t j).natAbs * a ≤ V * a := Nat.mul_le_mul_right _ (hV j hj)
    have e4 : 1 * 2812500 ≤ a * 2812500 := Nat.mul_le_mul_right _ hpv.1
    have e5 : a * (2812500 + V) = a * 2812500 + V * a := by rw [Nat.mul_add, Nat.mul_comm a V]
    omega
  have hPhiP : ∀ l, s < l → l < t → pr_Phi Z s t (p s) (p l) ≤ 1500 * a * (Z0 l (p l)).natAbs := by
    intro l hl hlt
    unfold pr_Phi
    rw [hAa]
    have e1 := h0.2.2.1.2.2.2.2 s l hl hlt
    have e1' : (Z s (p l)).natAbs ≤ (Z0 l (p l)).natAbs := by rw [hZs]; omega
    have e2 : (Z s (p l)).natAbs * (Z t (p s)).natAbs ≤ (Z0 l (p l)).natAbs * 750 := Nat.mul_le_mul e1' hb
    have e3 : (Z t (p l)).natAbs * a ≤ 750 * (Z0 l (p l)).natAbs * a := Nat.mul_le_mul_right _ (hxv l (by omega) hlt).1
    have e4 : 1 * ((Z0 l (p l)).natAbs * 750) ≤ a * ((Z0 l (p l)).natAbs * 750) := Nat.mul_le_mul_right _ hpv.1
    have e5 : 1500 * a * (Z0 l (p l)).natAbs = a * ((Z0 l (p l)).natAbs * 750) + 750 * (Z0 l (p l)).natAbs * a := by grind
    omega
  have hPhi0 : ∀ j, j < p s → pr_Phi Z s t (p s) j = 0 := by
    intro j hj
    unfold pr_Phi
    rw [hB.2.2.1 s j hs hj, hz j hj]; simp
  have hother : ∀ i, i < t → i ≠ s → Z1 i = Z i := fun i hi hne => c1 i hne (by omega)
  have hZ1s : ∀ j, j < p s → Z1 s j = 0 := fun j hj => by
    have := (c5 j (by omega)).1
    rw [hPhi0 j hj] at this; omega
  have hZ1t : ∀ j, j ≤ p s → Z1 t j = 0 := fun j hj => by
    rcases Nat.eq_or_lt_of_le hj with e | e
    · rw [e]; exact c2
    · have := (c5 j (by omega)).2
      rw [hPhi0 j e] at this; omega
  have hE : pr_Ech n t p Z1 := by
    refine ⟨hB.1, hB.2.1, fun i j hi hj => ?_, fun i hi => ?_⟩
    · by_cases e : i = s
      · rw [e] at hj ⊢; exact hZ1s j hj
      · rw [hother i hi e]; exact hB.2.2.1 i j hi hj
    · by_cases e : i = s
      · rw [e]; exact c3
      · rw [hother i hi e]; exact hB.2.2.2.1 i hi
  have hpivge : ∀ l, s < l → l < t → Z1 l = Z0 l := fun l a1 a2 => by rw [hother l a2 (by omega)]; exact hlow l (by omega) a2
  -- rows behind s stay
  have hbeh : ∀ i, s < i → i < t → ∀ m, m ≤ t → pr_kS Z1 p t t m i = Z0 i := by
    intro i hi hit m hm
    have e := pr_kS_idle (t := t) hE (i := i) (m1 := 0) m (by omega) hm (fun k _ hk hy => ?_)
    · rw [e]; exact hpivge i hi hit
    · have hik : i < k := by omega
      show 0 ≤ Z1 i (p k) ∧ Z1 i (p k) < Z1 k (p k)
      rw [hpivge i hi hit, hpivge k (by omega) (by omega)]
      exact h0.2.2.1.2.2.2.2 i k hik (by omega)
  have hlowC : ∀ k, s + 1 ≤ k → k < t → (∀ l, k < l → l < t → (Z1 k (p l)).natAbs ≤ (Z1 l (p l)).natAbs) ∧ ∀ c, c < n → (Z1 k c).natAbs ≤ 3750 := by
    intro k hk hkt
    refine ⟨fun l hl hlt => ?_, fun c hc => ?_⟩
    · rw [hpivge k (by omega) hkt, hpivge l (by omega) hlt]
      have := h0.2.2.1.2.2.2.2 k l hl hlt
      omega
    · rw [hpivge k (by omega) hkt]; exact h0.2.2.2.1 k c hkt hc
  -- row s
  have rs0 : pr_kS Z1 p t t (s + 1) s = Z1 s := pr_kS_row (s + 1) s (Nat.le_refl _) (by omega)
  have gs := pr_kS_grow (t := t) hE (i := s) (m0 := s + 1) (C := fun _ => 3750) (X := fun j => a * (2812500 + V)) (x := 1500 * a) hlowC
    (fun l h1 h2 => by rw [rs0, hpivge l (by omega) h2]; exact Nat.le_trans (c5 (p l) (by have := h0.2.2.1.1 l h2; omega)).1 (hPhiP l (by omega) h2))
    (fun j hj => by rw [rs0]; exact Nat.le_trans (c5 j (by omega)).1 (hPhi j hj))
  -- the newest
  have rt0 : pr_kS Z1 p t t (s + 1) t = Z1 t := pr_kS_idle (t := t) hE (i := t) (m1 := 0) (s + 1) (by omega) (by omega) (fun k _ hk _ => by
    have hpk : p k ≤ p s := by
      rcases Nat.eq_or_lt_of_le (Nat.le_of_lt_succ hk) with e | e
      · rw [e]; exact Nat.le_refl _
      · exact Nat.le_of_lt (hB.2.1 k s e hs)
    show 0 ≤ Z1 t (p k) ∧ Z1 t (p k) < Z1 k (p k)
    rw [hZ1t (p k) hpk]
    exact ⟨Int.le_refl _, hE.2.2.2 k (by omega)⟩)
  have gt := pr_kS_grow (t := t) hE (i := t) (m0 := s + 1) (C := fun _ => 3750) (X := fun j => a * (2812500 + V)) (x := 1500 * a) hlowC
    (fun l h1 h2 => by rw [rt0, hpivge l (by omega) h2]; exact Nat.le_trans (c5 (p l) (by have := h0.2.2.1.1 l h2; omega)).2 (hPhiP l (by omega) h2))
    (fun j hj => by rw [rt0]; exact Nat.le_trans (c5 j (by omega)).2 (hPhi j hj))
  -- the rows ahead of s
  have ru0 : ∀ i, i < s → ∀ m, m ≤ s → pr_kS Z1 p t t m i = Z i := by
    intro i hi m hm
    have e := pr_kS_idle (t := t) hE (i := i) (m1 := 0) m (by omega) (by omega) (fun k _ hk hy => ?_)
    · rw [e]; exact hother i (by omega) (by omega)
    · show 0 ≤ Z1 i (p k) ∧ Z1 i (p k) < Z1 k (p k)
      rw [hother i (by omega) (by omega), hother k (by omega) (by omega)]
      exact hB.2.2.2.2 i k (by omega) (by omega)
  have hqs : ∀ i, i < s → (Z i (p s) / Z1 s (p s)).natAbs ≤ a := by
    intro i hi
    refine pr_qle c3 ?_
    have e1 := hB.2.2.2.2 i s hi hs
    have e2 : a * 1 ≤ a * (Z1 s (p s)).natAbs := Nat.mul_le_mul_left _ (by omega)
    omega
  have ru1 : ∀ i, i < s → ∀ c, pr_kS Z1 p t t (s + 1) i c = Z i c - (Z i (p s) / Z1 s (p s)) * Z1 s c := by
    intro i hi c
    show pr_ks (pr_kS Z1 p t t s) p t t s i c = _
    unfold pr_ks
    rw [if_pos (Or.inl hi), ru0 i hi s (Nat.le_refl _), pr_kS_row s s (by omega) (by omega)]
  have gu : ∀ i, i < s → _ := fun i hi => pr_kS_grow (t := t) hE (i := i) (m0 := s + 1) (C := fun _ => 3750) (X := fun j => (4000 + s * 200000000000000) + a * (a * (2812500 + V))) (x := 1 + a * (1500 * a)) hlowC
    (fun l h1 h2 => by
      rw [ru1 i hi (p l), hpivge l (by omega) h2]
      have e1 := hB.2.2.2.2 i l (by omega) h2
      have e2 : (Z i (p l)).natAbs ≤ 1 * (Z0 l (p l)).natAbs := by rw [← hlow l (by omega) h2]; omega
      have e3 := Nat.le_trans (c5 (p l) (by have := h0.2.2.1.1 l h2; omega)).1 (hPhiP l (by omega) h2)
      have e4 := pr_sub_le e2 (hqs i hi) e3
      have e5 : (1 + a * (1500 * a)) * (Z0 l (p l)).natAbs = 1 * (Z0 l (p l)).natAbs + a * (1500 * a * (Z0 l (p l)).natAbs) := by grind
      omega)
    (fun j hj => by
      rw [ru1 i hi j]
      exact pr_sub_le (hR i j hi hj) (hqs i hi) (Nat.le_trans (c5 j (by omega)).1 (hPhi j hj)))
  have ha2 : a * a ≤ 750 * 750 := Nat.mul_le_mul hpv.2 hpv.2
  have hx9 : 1 + a * (1500 * a) ≤ 843750001 := by
    have : a * (1500 * a) = 1500 * (a * a) := by grind
    omega
  have hT1 := pr_T h0 (s + 1) (by omega)
  have hTs := h0.2.2.2.2.2.1 s hs
  rw [ha] at hTs
  have hTs1 := pr_T h0 s (by omega)
  have hVb : V ≤ 562500 + s * 32000000000 := by
    have : V * 1 ≤ V * T s := Nat.mul_le_mul_left _ hTs1.1
    omega
  have hVa : V * a ≤ 562500 + s * 32000000000 := by
    have e1 : V * (a * 1) ≤ V * (a * T (s + 1)) := Nat.mul_le_mul_left _ (Nat.mul_le_mul_left _ hT1.1)
    rw [← hTs, Nat.mul_one] at e1
    omega
  have hst := pr_kS_stay (t := t) hE
  have hpw : ∀ d, d ≤ 2 → 2 ^ d ≤ 4 := fun d hd => by
    rcases (show d = 0 ∨ d = 1 ∨ d = 2 by omega) with rfl | rfl | rfl <;> decide
  refine ⟨hE, fun k hk i hi => ?_, ?_⟩
  · -- decisions
    have hpk750 : ∀ l, s < l → l < t → (Z1 l (p l)).natAbs ≤ 750 := fun l a1 a2 => by rw [hpivge l a1 a2]; exact (pr_piv h0 a2).2
    rcases Nat.lt_trichotomy i k with e | e | e
    · -- i < k
      rcases Nat.lt_trichotomy i s with es | es | es
      · rcases Nat.lt_or_ge s k with ek | ek
        · obtain ⟨d, rfl⟩ : ∃ d, k = s + 1 + d := ⟨k - (s + 1), by omega⟩
          have b1 := (gu i es d (by omega)).1 (s + 1 + d) (Nat.le_refl _) hk
          have b2 := hpk750 (s + 1 + d) (by omega) hk
          have b3 : 2 ^ d * (1 + a * (1500 * a)) ≤ 4 * 843750001 := Nat.mul_le_mul (hpw d (by omega)) hx9
          have b4 := Nat.mul_le_mul b3 b2
          unfold pr_sm; omega
        · rw [ru0 i es k ek]
          have e1 := hB.2.2.2.2 i k e (by omega)
          have e2 := hR i (p k) es (hB.1 k hk)
          unfold pr_sm; omega
      · subst es
        obtain ⟨d, rfl⟩ : ∃ d, k = i + 1 + d := ⟨k - (i + 1), by omega⟩
        have b1 := (gs d (by omega)).1 (i + 1 + d) (Nat.le_refl _) hk
        have b2 := hpk750 (i + 1 + d) (by omega) hk
        have b3 : 2 ^ d * (1500 * a) ≤ 4 * (1500 * 750) := Nat.mul_le_mul (hpw d (by omega)) (Nat.mul_le_mul_left _ hpv.2)
        have b4 := Nat.mul_le_mul b3 b2
        unfold pr_sm; omega
      · rw [hbeh i es (by omega) k (by omega)]
        have := h0.2.2.2.1 i (p k) (by omega) (hB.1 k hk)
        unfold pr_sm; omega
    · -- the beginning itself
      subst e
      rw [hst i (by omega) i (p i) hk (Nat.le_refl _)]
      by_cases es : i = s
      · rw [es]; unfold pr_sm; omega
      · rw [hother i hk es]
        have hpi := hB.2.2.2.1 i hk
        rcases Nat.lt_or_ge i s with q | q
        · have := hR i (p i) q (hB.1 i hk)
          unfold pr_sm; omega
        · rw [hlow i (by omega) hk]
          have := h0.2.2.2.1 i (p i) hk (hB.1 i hk)
          unfold pr_sm; omega
    · rcases Nat.lt_or_ge i t with q | q
      · rw [hst k (by omega) i (p k) q (Nat.le_of_lt (hB.2.1 k i e q)), hE.2.2.1 i (p k) q (hB.2.1 k i e q)]
        unfold pr_sm; omega
      · have hit : i = t := by omega
        subst hit
        rcases Nat.lt_or_ge s k with ek | ek
        · obtain ⟨d, rfl⟩ : ∃ d, k = s + 1 + d := ⟨k - (s + 1), by omega⟩
          have b1 := (gt d (by omega)).1 (s + 1 + d) (Nat.le_refl _) hk
          have b2 := hpk750 (s + 1 + d) (by omega) hk
          have b3 : 2 ^ d * (1500 * a) ≤ 4 * (1500 * 750) := Nat.mul_le_mul (hpw d (by omega)) (Nat.mul_le_mul_left _ hpv.2)
          have b4 := Nat.mul_le_mul b3 b2
          unfold pr_sm; omega
        · have hpre := pr_kS_pre (t := i) (i := i) (c0 := p s + 1) hE.2.2.1 hE.2.1 (fun c hc => hZ1t c (by omega)) k (by omega)
          have hpk : p k ≤ p s := by
            rcases Nat.eq_or_lt_of_le ek with e9 | e9
            · rw [e9]; exact Nat.le_refl _
            · exact Nat.le_of_lt (hB.2.1 k s e9 hs)
          rw [hpre.2 (p k) (by omega)]
          unfold pr_sm; omega
  · -- what holds behind
    obtain ⟨o1, o2⟩ := pr_kS_op (n := 8) Z1 (p := p) (b := t) (t := t) (by omega) (by omega) t (Nat.le_refl _)
    obtain ⟨d, hd⟩ : ∃ d, s + 1 + d = t := ⟨t - (s + 1), by omega⟩
    have hd2 : 2 ^ d - 1 ≤ 3 := by have := hpw d (by omega); omega
    refine ⟨pr_kS_base hE, fun l h1 h2 => hbeh l (by omega) h2 t (Nat.le_refl _), fun i hi => ?_, fun k hk => hn_Same_tr (hSm k hk) (hn_Same_tr (c6 k (by omega) hk) (o1 k hk)), pr_Det_tr hDt (pr_Det_tr c7 o2), fun j hj => ?_, ⟨a * (2812500 + V) + 3 * (1500 * a) * 3750, fun j hj => ?_, ?_⟩, fun l h1 h2 => ?_, fun i j hi hj => ?_, Or.inl (fun l h1 h2 => ?_)⟩
    · have : pr_kS Z1 p t t t i = Z1 i := pr_kS_row t i (by omega) (by omega)
      rw [this, c1 i (by omega) (by omega)]; exact hhi i hi
    · exact (pr_kS_pre (t := t) (i := t) (c0 := p s + 1) hE.2.2.1 hE.2.1 (fun c hc => hZ1t c (by omega)) t (Nat.le_refl _)).2 j hj
    · have := (gt d (by omega)).2 j hj
      rw [hd] at this
      have e1 : (2 ^ d - 1) * (1500 * a) * 3750 ≤ 3 * (1500 * a) * 3750 := Nat.mul_le_mul_right _ (Nat.mul_le_mul_right _ hd2)
      omega
    · have e1 : (a * (2812500 + V) + 3 * (1500 * a) * 3750) * T (s + 1) = 19687500 * (a * T (s + 1)) + V * (a * T (s + 1)) := by grind
      rw [e1, ← hTs]
      have e2 : 19687500 * T s ≤ 19687500 * 750 := Nat.mul_le_mul_left _ hTs1.2
      omega
    · have hr := pr_kS_red (t := t) hE t (Nat.le_refl _) l h2 t (Or.inr ⟨Nat.le_refl _, Nat.le_refl _⟩)
      rw [hpivge l (by omega) h2] at hr
      have := pr_piv h0 h2
      exact ⟨by omega, by omega⟩
    · rcases Nat.lt_or_ge i s with q | q
      · have := (gu i q d (by omega)).2 j hj
        rw [hd] at this
        have e1 : (2 ^ d - 1) * (1 + a * (1500 * a)) * 3750 ≤ 3 * 843750001 * 3750 := Nat.mul_le_mul_right _ (Nat.mul_le_mul hd2 hx9)
        have e2 : a * (a * (2812500 + V)) = 2812500 * (a * a) + a * (V * a) := by grind
        have e3 : a * (V * a) ≤ 750 * (562500 + s * 32000000000) := Nat.mul_le_mul hpv.2 hVa
        rw [e2] at this
        omega
      · have his : i = s := by omega
        subst his
        have := (gs d (by omega)).2 j hj
        rw [hd] at this
        have e1 : (2 ^ d - 1) * (1500 * a) * 3750 ≤ 3 * (1500 * 750) * 3750 := Nat.mul_le_mul_right _ (Nat.mul_le_mul hd2 (Nat.mul_le_mul_left _ hpv.2))
        have e2 : a * (2812500 + V) ≤ 750 * (2812500 + V) := Nat.mul_le_mul_right _ hpv.2
        omega
    · have hr := pr_kS_red (t := t) hE t (Nat.le_refl _) l h2 t (Or.inr ⟨Nat.le_refl _, Nat.le_refl _⟩)
      rw [hpivge l (by omega) h2] at hr
      omega
