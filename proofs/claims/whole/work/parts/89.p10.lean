/-- where the rows begin when one more has come between -/
def pr_np (p : Nat → Nat) (t s c : Nat) : Nat → Nat := fun i => if i = s then c else if s < i ∧ i ≤ t then p (i - 1) else p i
/-- a column of no beginning where the newest is 0: nothing is done -/
theorem pr_skip {n t : Nat} {p T : Nat → Nat} {Z0 Z : Nat → Nat → Int} {s c : Nat} (h : pr_Inv n t p T Z0 s c Z) (hz : Z t c = 0) : pr_Inv n t p T Z0 s (c + 1) Z := by
  obtain ⟨a1, a2, a3, a4, a5, a6, a7⟩ := h
  refine ⟨a1, a2, a3, a4, a5, fun j hj => ?_, a7⟩
  rcases Nat.eq_or_lt_of_le (Nat.le_of_lt_succ hj) with e | e
  · rw [e]; exact hz
  · exact a6 j e
set_option maxRecDepth 100000 in
/-- a beginning where the newest is 0 -/
theorem pr_skipB {n t : Nat} {p T : Nat → Nat} {Z0 Z : Nat → Nat → Int} {s : Nat} (h0 : pr_Start n t p T Z0) (hs : s < t) (h : pr_Inv n t p T Z0 s (p s) Z) (hz : Z t (p s) = 0) : pr_Inv n t p T Z0 (s + 1) (p s + 1) Z := by
  obtain ⟨a1, a2, a3, a4, a5, a6, ⟨V, v1, v2⟩, a8, a9, a10⟩ := pr_skip h hz
  have hT1 := pr_T h0 (s + 1) (by omega)
  have hTs := h0.2.2.2.2.2.1 s hs
  have hpv := pr_piv h0 hs
  refine ⟨a1, fun l h1 h2 => a2 l (by omega) h2, a3, a4, a5, a6, ⟨V, v1, ?_⟩, fun l h1 h2 => a8 l (by omega) h2, fun i j hi hj => ?_, ?_⟩
  · have e1 : 1 * T (s + 1) ≤ (Z0 s (p s)).natAbs * T (s + 1) := Nat.mul_le_mul_right _ hpv.1
    have e2 : V * T (s + 1) ≤ V * T s := Nat.mul_le_mul_left _ (by omega)
    rw [Nat.succ_mul]
    exact Nat.le_trans e2 (Nat.le_trans v2 (Nat.add_le_add_left (Nat.le_add_right _ _) _))
  · rcases Nat.lt_or_ge i s with q | q
    · refine Nat.le_trans (a9 i j q hj) ?_
      rw [Nat.succ_mul]
      exact Nat.add_le_add_left (Nat.le_add_right _ _) _
    · have : i = s := by omega
      subst this
      rw [a2 i (Nat.le_refl _) hs]
      exact Nat.le_trans (h0.2.2.2.1 i j hs hj) (Nat.le_trans (by decide : 3750 ≤ 4000) (Nat.le_add_right _ _))
  · rcases a10 with q | q
    · exact Or.inl (fun l h1 h2 => q l (by omega) h2)
    · refine Or.inr (fun i j hi hj => ?_)
      rcases Nat.lt_or_ge i s with z | z
      · exact q i j z hj
      · have : i = s := by omega
        subst this
        rw [a2 i (Nat.le_refl _) hs]
        have := h0.2.2.2.1 i j hs hj
        omega
set_option maxHeartbeats 1000000 in
set_option maxRecDepth 100000 in
/-- the newest gets its place, and all rows are kept small -/
theorem pr_place {n t : Nat} {p T : Nat → Nat} {Z0 Z : Nat → Nat → Int} {s c : Nat} (h0 : pr_Start n t p T Z0) (hs : s ≤ t) (hI : pr_Inv n t p T Z0 s c Z) (hc : c < n) (hlo : ∀ l, l < s → p l < c) (hhi : ∀ l, s ≤ l → l < t → c < p l) (hne : Z t c ≠ 0)
    {Z1 : Nat → Nat → Int} (hZ1 : Z1 = if Z t c < 0 then pr_zn (pr_mv Z t s) s else pr_mv Z t s) :
    pr_Ech n (t + 1) (pr_np p t s c) Z1 ∧ (∀ k, k < t + 1 → ∀ i, i ≤ t → pr_sm (pr_kS Z1 (pr_np p t s c) (t + 1) t k i (pr_np p t s c k))) ∧ hn_Base n (t + 1) (pr_np p t s c) (pr_kS Z1 (pr_np p t s c) (t + 1) t (t + 1)) ∧
      (∀ i, t < i → pr_kS Z1 (pr_np p t s c) (t + 1) t (t + 1) i = Z0 i) ∧ (∀ k, t < k → hn_Same 8 k Z0 (pr_kS Z1 (pr_np p t s c) (t + 1) t (t + 1))) ∧ pr_Det Z0 (pr_kS Z1 (pr_np p t s c) (t + 1) t (t + 1)) := by
  have ht3 := h0.2.1
  obtain ⟨hB, hlow, hgt, hSm, hDt, hz, ⟨V, hV, hVT⟩, hxv, hR, hred⟩ := hI
  generalize hq : pr_np p t s c = q
  -- the rows of Z1
  have r1 : ∀ i, i < s → Z1 i = Z i := by
    intro i hi; funext j; rw [hZ1]
    have e : pr_mv Z t s i j = Z i j := by unfold pr_mv; rw [if_neg (by omega), if_neg (by omega)]
    split
    · unfold pr_zn; rw [if_neg (by omega)]; exact e
    · exact e
  have r2 : ∀ i, s < i → i ≤ t → Z1 i = Z0 (i - 1) := by
    intro i hi hit; rw [← hlow (i - 1) (by omega) (by omega)]; funext j; rw [hZ1]
    have e : pr_mv Z t s i j = Z (i - 1) j := by unfold pr_mv; rw [if_neg (by omega), if_pos ⟨hi, hit⟩]
    split
    · unfold pr_zn; rw [if_neg (by omega)]; exact e
    · exact e
  have r3 : ∀ i, t < i → Z1 i = Z0 i := by
    intro i hi; rw [← hgt i hi]; funext j; rw [hZ1]
    have e : pr_mv Z t s i j = Z i j := by unfold pr_mv; rw [if_neg (by omega), if_neg (by omega)]
    split
    · unfold pr_zn; rw [if_neg (by omega)]; exact e
    · exact e
  have rs : ∀ j, (Z1 s j).natAbs = (Z t j).natAbs := by
    intro j; rw [hZ1]
    have e : pr_mv Z t s s j = Z t j := by unfold pr_mv; rw [if_pos rfl]
    split
    · unfold pr_zn; rw [if_pos rfl, e, Int.natAbs_neg]
    · rw [e]
  have rsp : 0 < Z1 s c := by
    rw [hZ1]
    have e : pr_mv Z t s s c = Z t c := by unfold pr_mv; rw [if_pos rfl]
    split
    · unfold pr_zn; rw [if_pos rfl, e]; omega
    · rw [e]; omega
  -- the beginnings
  have q1 : ∀ i, i < s → q i = p i := fun i hi => by rw [← hq]; unfold pr_np; rw [if_neg (by omega), if_neg (by omega)]
  have qs : q s = c := by rw [← hq]; unfold pr_np; rw [if_pos rfl]
  have q2 : ∀ i, s < i → i ≤ t → q i = p (i - 1) := fun i hi hit => by rw [← hq]; unfold pr_np; rw [if_neg (by omega), if_pos ⟨hi, hit⟩]
  have hqn : ∀ i, i < t + 1 → q i < n := by
    intro i hi
    rcases Nat.lt_trichotomy i s with e | e | e
    · rw [q1 i e]; exact hB.1 i (by omega)
    · rw [e, qs]; exact hc
    · rw [q2 i e (by omega)]; exact hB.1 (i - 1) (by omega)
  have hqi : ∀ i k, i < k → k < t + 1 → q i < q k := by
    intro i k hik hk
    rcases Nat.lt_trichotomy i s with e | e | e
    · rw [q1 i e]
      rcases Nat.lt_trichotomy k s with e2 | e2 | e2
      · rw [q1 k e2]; exact hB.2.1 i k hik (by omega)
      · rw [e2, qs]; exact hlo i e
      · rw [q2 k e2 (by omega)]; have := hlo i e; have := hhi (k - 1) (by omega) (by omega); omega
    · rw [e, qs, q2 k (by omega) (by omega)]; exact hhi (k - 1) (by omega) (by omega)
    · rw [q2 i e (by omega), q2 k (by omega) (by omega)]; exact hB.2.1 (i - 1) (k - 1) (by omega) (by omega)
  have hE : pr_Ech n (t + 1) q Z1 := by
    refine ⟨hqn, hqi, fun i j hi hj => ?_, fun i hi => ?_⟩
    · rcases Nat.lt_trichotomy i s with e | e | e
      · rw [q1 i e] at hj; rw [r1 i e]; exact hB.2.2.1 i j (by omega) hj
      · rw [e, qs] at hj; rw [e]
        have := rs j; rw [hz j hj] at this; omega
      · rw [q2 i e (by omega)] at hj; rw [r2 i e (by omega)]; exact h0.2.2.1.2.2.1 (i - 1) j (by omega) hj
    · rcases Nat.lt_trichotomy i s with e | e | e
      · rw [q1 i e, r1 i e]; exact hB.2.2.2.1 i (by omega)
      · rw [e, qs]; exact rsp
      · rw [q2 i e (by omega), r2 i e (by omega)]; exact h0.2.2.1.2.2.2.1 (i - 1) (by omega)
  have hTs1 := pr_T h0 s (by omega)
  have hVb : V ≤ 562500 + s * 32000000000 := by
    have : V * 1 ≤ V * T s := Nat.mul_le_mul_left _ hTs1.1
    omega
  have hpiv : ∀ l, s < l → l ≤ t → (Z1 l (q l)).natAbs ≤ 750 := fun l a1 a2 => by rw [r2 l a1 a2, q2 l a1 a2]; exact (pr_piv h0 (by omega)).2
  -- rows behind stay
  have hbeh : ∀ i, s < i → i ≤ t → ∀ m, m ≤ t + 1 → pr_kS Z1 q (t + 1) t m i = Z0 (i - 1) := by
    intro i hi hit m hm
    have e := pr_kS_idle (t := t) hE (i := i) (m1 := 0) m (by omega) hm (fun k _ hk hy => ?_)
    · rw [e]; exact r2 i hi hit
    · have hik : i < k := by omega
      show 0 ≤ Z1 i (q k) ∧ Z1 i (q k) < Z1 k (q k)
      rw [r2 i hi hit, r2 k (by omega) (by omega), q2 k (by omega) (by omega)]
      exact h0.2.2.1.2.2.2.2 (i - 1) (k - 1) (by omega) (by omega)
  have hlowC : ∀ k, s + 1 ≤ k → k < t + 1 → (∀ l, k < l → l < t + 1 → (Z1 k (q l)).natAbs ≤ (Z1 l (q l)).natAbs) ∧ ∀ c, c < n → (Z1 k c).natAbs ≤ 3750 := by
    intro k hk hkt
    refine ⟨fun l hl hlt => ?_, fun c hc => ?_⟩
    · rw [r2 k (by omega) (by omega), r2 l (by omega) (by omega), q2 l (by omega) (by omega)]
      have := h0.2.2.1.2.2.2.2 (k - 1) (l - 1) (by omega) (by omega)
      omega
    · rw [r2 k (by omega) (by omega)]; exact h0.2.2.2.1 (k - 1) c (by omega) hc
  have hpw : ∀ d, d ≤ 2 → 2 ^ d ≤ 4 := fun d hd => by
    rcases (show d = 0 ∨ d = 1 ∨ d = 2 by omega) with rfl | rfl | rfl <;> decide
  -- the placed row
  have rs0 : pr_kS Z1 q (t + 1) t (s + 1) s = Z1 s := pr_kS_row (s + 1) s (Nat.le_refl _) (by omega)
  have gs := pr_kS_grow (t := t) hE (i := s) (m0 := s + 1) (C := fun _ => 3750) (X := fun _ => V) (x := 750) hlowC
    (fun l h1 h2 => by
      rw [rs0, rs, q2 l (by omega) (by omega), r2 l (by omega) (by omega)]
      exact (hxv (l - 1) (by omega) (by omega)).1)
    (fun j hj => by rw [rs0, rs]; exact hV j hj)
  -- the rows ahead
  have ru0 : ∀ i, i < s → ∀ m, m ≤ s → pr_kS Z1 q (t + 1) t m i = Z i := by
    intro i hi m hm
    have e := pr_kS_idle (t := t) hE (i := i) (m1 := 0) m (by omega) (by omega) (fun k _ hk hy => ?_)
    · rw [e]; exact r1 i hi
    · show 0 ≤ Z1 i (q k) ∧ Z1 i (q k) < Z1 k (q k)
      rw [r1 i hi, r1 k (by omega), q1 k (by omega)]
      exact hB.2.2.2.2 i k (by omega) (by omega)
  have ru1 : ∀ i, i < s → ∀ j, pr_kS Z1 q (t + 1) t (s + 1) i j = Z i j - (Z i c / Z1 s c) * Z1 s j := by
    intro i hi j
    show pr_ks (pr_kS Z1 q (t + 1) t s) q (t + 1) t s i j = _
    unfold pr_ks
    rw [if_pos (Or.inl hi), ru0 i hi s (Nat.le_refl _), pr_kS_row s s (by omega) (by omega), qs]
  -- their multiple of the placed row, and how the placed row stands to the later beginnings
  have hQ : ∃ Q y : Nat, Q * y ≤ 600000000004000 ∧ (∀ i, i < s → (Z i c).natAbs ≤ Q) ∧ (∀ l, s < l → l ≤ t → (Z t (p (l - 1))).natAbs ≤ y * (Z0 (l - 1) (p (l - 1))).natAbs) := by
    rcases hred with hr | hr
    · refine ⟨4000 + s * 200000000000000, 1, by omega, fun i hi => hR i c hi hc, fun l a1 a2 => ?_⟩
      have := hr (l - 1) (by omega) (by omega); omega
    · exact ⟨4000, 750, by omega, fun i hi => hr i c hi hc, fun l a1 a2 => (hxv (l - 1) (by omega) (by omega)).1⟩
  obtain ⟨Q, y, hQy, hQ1, hy1⟩ := hQ
  have gu : ∀ i, i < s → _ := fun i hi => pr_kS_grow (t := t) hE (i := i) (m0 := s + 1) (C := fun _ => 3750) (X := fun j => (4000 + s * 200000000000000) + Q * V) (x := 1 + Q * y) hlowC
    (fun l h1 h2 => by
      rw [ru1 i hi (q l), q2 l (by omega) (by omega), r2 l (by omega) (by omega)]
      have e1 := hB.2.2.2.2 i (l - 1) (by omega) (by omega)
      have e2 : (Z i (p (l - 1))).natAbs ≤ 1 * (Z0 (l - 1) (p (l - 1))).natAbs := by rw [← hlow (l - 1) (by omega) (by omega)]; omega
      have e3 : (Z1 s (p (l - 1))).natAbs ≤ y * (Z0 (l - 1) (p (l - 1))).natAbs := by rw [rs]; exact hy1 l (by omega) (by omega)
      have e6 : (Z i c / Z1 s c).natAbs ≤ Q := by
        refine pr_qle rsp ?_
        have e7 := hQ1 i hi
        have e8 : Q * 1 ≤ Q * (Z1 s c).natAbs := Nat.mul_le_mul_left _ (by omega)
        omega
      have e4 := pr_sub_le e2 e6 e3
      have e5 : (1 + Q * y) * (Z0 (l - 1) (p (l - 1))).natAbs = 1 * (Z0 (l - 1) (p (l - 1))).natAbs + Q * (y * (Z0 (l - 1) (p (l - 1))).natAbs) := by grind
      omega)
    (fun j hj => by
      rw [ru1 i hi j]
      have e6 : (Z i c / Z1 s c).natAbs ≤ Q := by
        refine pr_qle rsp ?_
        have e7 := hQ1 i hi
        have e8 : Q * 1 ≤ Q * (Z1 s c).natAbs := Nat.mul_le_mul_left _ (by omega)
        omega
      exact pr_sub_le (hR i j hi hj) e6 (by rw [rs]; exact hV j hj))
  have hst := pr_kS_stay (t := t) hE
  refine ⟨hE, fun k hk i hi => ?_, pr_kS_base hE, fun i hi => ?_, fun k hk => ?_, ?_⟩
  · rcases Nat.lt_trichotomy i k with e | e | e
    · rcases Nat.lt_trichotomy i s with es | es | es
      · rcases Nat.lt_or_ge s k with ek | ek
        · obtain ⟨d, rfl⟩ : ∃ d, k = s + 1 + d := ⟨k - (s + 1), by omega⟩
          have b1 := (gu i es d (by omega)).1 (s + 1 + d) (Nat.le_refl _) hk
          have b2 := hpiv (s + 1 + d) (by omega) (by omega)
          have b3 : 2 ^ d * (1 + Q * y) ≤ 4 * 600000000004001 := Nat.mul_le_mul (hpw d (by omega)) (by omega)
          have b4 := Nat.mul_le_mul b3 b2
          unfold pr_sm; omega
        · rw [ru0 i es k ek]
          have e2 := hR i (q k) es (hqn k hk)
          unfold pr_sm; omega
      · subst es
        obtain ⟨d, rfl⟩ : ∃ d, k = i + 1 + d := ⟨k - (i + 1), by omega⟩
        have b1 := (gs d (by omega)).1 (i + 1 + d) (Nat.le_refl _) hk
        have b2 := hpiv (i + 1 + d) (by omega) (by omega)
        have b3 : 2 ^ d * 750 ≤ 4 * 750 := Nat.mul_le_mul_right _ (hpw d (by omega))
        have b4 := Nat.mul_le_mul b3 b2
        unfold pr_sm; omega
      · rw [hbeh i es (by omega) k (by omega)]
        have := h0.2.2.2.1 (i - 1) (q k) (by omega) (hqn k hk)
        unfold pr_sm; omega
    · subst e
      rw [hst i (by omega) i (q i) hk (Nat.le_refl _)]
      rcases Nat.lt_trichotomy i s with es | es | es
      · rw [r1 i es]
        have := hR i (q i) es (hqn i hk)
        unfold pr_sm; omega
      · rw [es, qs]; unfold pr_sm; rw [rs]
        have := hV c hc; omega
      · have := hpiv i es (by omega)
        unfold pr_sm; omega
    · rw [hst k (by omega) i (q k) (by omega) (Nat.le_of_lt (hqi k i e (by omega))), hE.2.2.1 i (q k) (by omega) (hqi k i e (by omega))]
      unfold pr_sm; omega
  · rw [pr_kS_row (t + 1) i (by omega) (by omega)]; exact r3 i hi
  · obtain ⟨o1, -⟩ := pr_kS_op (n := 8) Z1 (p := q) (b := t + 1) (t := t) (by omega) (by omega) (t + 1) (Nat.le_refl _)
    obtain ⟨m1, -⟩ := pr_Same_mv (n := 8) (k := k) Z hs hk
    refine hn_Same_tr (hSm k hk) (hn_Same_tr (hn_Same_tr m1 ?_) (o1 k hk))
    rw [hZ1]
    split
    · exact pr_Same_n _ (by omega)
    · exact hn_Same_rf
  · obtain ⟨-, o2⟩ := pr_kS_op (n := 8) Z1 (p := q) (b := t + 1) (t := t) (by omega) (by omega) (t + 1) (Nat.le_refl _)
    obtain ⟨-, m2⟩ := pr_Same_mv (n := 8) (k := t + 1) Z hs (by omega)
    refine pr_Det_tr hDt (pr_Det_tr (pr_Det_tr (m2 (by omega)) ?_) o2)
    rw [hZ1]
    split
    · exact pr_Det_n _ (by omega)
    · exact pr_Det_rf
