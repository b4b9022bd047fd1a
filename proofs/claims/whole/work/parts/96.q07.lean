/-! There is a base for every number of rows: out of nothing but row operations. -/
theorem gx_clear {Z : Nat → Nat → Int} {s t c : Nat} (hs : s < 4) (ht : t < 4) (hne : s ≠ t) (hu : Z s c ≠ 0) (hv : Z t c ≠ 0) : ∃ Z', pr_Cl 8 Z Z' s t c := by
  have fin : ∀ (Y : Nat → Nat → Int), (∀ i, i ≠ s → i ≠ t → Y i = Z i) → Y s c ≠ 0 → Y t c = 0 → (∃ α β, Z s c = α * Y s c + β * Y t c) → (∀ j, j < 8 → (Y s j).natAbs ≤ pr_Phi Z s t c j ∧ (Y t j).natAbs ≤ pr_Phi Z s t c j) → (∀ k, s < k → t < k → hn_Same 8 k Z Y) → pr_Det Z Y → ∃ Z', pr_Cl 8 Z Z' s t c := by
    intro Y ho h0 h1 ⟨α, β, hα⟩ hB hSm hDt
    by_cases q : 0 ≤ Y s c
    · exact ⟨Y, ho, h1, by omega, ⟨α, by rw [hα, h1]; omega⟩, hB, hSm, hDt⟩
    · refine ⟨pr_zn Y s, fun i a b => ?_, ?_, ?_, ⟨-α, ?_⟩, fun j hj => ?_, fun k a b => hn_Same_tr (hSm k a b) (pr_Same_n Y a), pr_Det_tr hDt (pr_Det_n Y hs)⟩
      · funext j; simp [pr_zn, a, ho i a b]
      · simp [pr_zn, show ¬ t = s from fun q => hne q.symm, h1]
      · simp only [pr_zn, if_true]; omega
      · simp only [pr_zn, if_true]
        rw [hα, h1, Int.neg_mul_neg]; omega
      · simp only [pr_zn, if_true, if_neg (show ¬ t = s from fun q => hne q.symm), Int.natAbs_neg]
        exact hB j hj
  have key : ∀ (d : Nat) (Y : Nat → Nat → Int), (Y t c).natAbs ≤ d → (∀ i, i ≠ s → i ≠ t → Y i = Z i) → Y s c ≠ 0 → (∃ α β, Z s c = α * Y s c + β * Y t c) →
      (∀ j, j < 8 → (Y s j).natAbs * (Y t c).natAbs + (Y t j).natAbs * (Y s c).natAbs ≤ pr_Phi Z s t c j ∧ (Y s j).natAbs ≤ pr_Phi Z s t c j ∧ (Y t j).natAbs ≤ pr_Phi Z s t c j) → (∀ k, s < k → t < k → hn_Same 8 k Z Y) → pr_Det Z Y → ∃ Z', pr_Cl 8 Z Z' s t c := by
    intro d
    induction d with
    | zero => intro Y hd ho h0 hα hB hSm hDt; exact fin Y ho h0 (by omega) hα (fun j hj => (hB j hj).2) hSm hDt
    | succ d ih =>
      intro Y hd ho h0 ⟨α, β, hα⟩ hB hSm hDt
      by_cases q : Y t c = 0
      · exact fin Y ho h0 q ⟨α, β, hα⟩ (fun j hj => (hB j hj).2) hSm hDt
      have es : ∀ j, pr_zs (pr_zt Y s t ((Y s c).tdiv (Y t c))) s t s j = Y t j := fun j => by simp [pr_zs, pr_zt, show ¬ t = s from fun q => hne q.symm]
      have et : ∀ j, pr_zs (pr_zt Y s t ((Y s c).tdiv (Y t c))) s t t j = Y s j - (Y s c).tdiv (Y t c) * Y t j := fun j => by simp [pr_zs, pr_zt, show ¬ t = s from fun q => hne q.symm]
      have hr9 := pr_rest (Y s c) (Y t c) q
      have ha9 := pr_absdiv (Y s c) (Y t c)
      refine ih (pr_zs (pr_zt Y s t ((Y s c).tdiv (Y t c))) s t) ?_ (fun i a b => ?_) ?_ ⟨α * (Y s c).tdiv (Y t c) + β, α, ?_⟩ (fun j hj => ?_) (fun k a b => hn_Same_tr (hSm k a b) (hn_Same_tr (pr_Same_t Y _ a b hne) (pr_Same_s _ a b))) (pr_Det_tr hDt (pr_Det_tr (pr_Det_t Y _ hs ht hne) (pr_Det_s _ hs ht hne)))
      · rw [et]; omega
      · funext j; simp [pr_zs, pr_zt, a, b, ho i a b]
      · rw [es]; exact q
      · rw [es, et, hα]; grind
      · rw [es, et, es, et]
        have b1 := hB j hj
        have x1 := pr_abs_sub_mul (Y s j) ((Y s c).tdiv (Y t c)) (Y t j)
        have k1 := pr_Phi_step ha9 x1 b1.1
        refine ⟨k1, b1.2.2, ?_⟩
        have hpos : 1 ≤ (Y t c).natAbs := by omega
        have : (Y s j - (Y s c).tdiv (Y t c) * Y t j).natAbs * 1 ≤ (Y s j - (Y s c).tdiv (Y t c) * Y t j).natAbs * (Y t c).natAbs := Nat.mul_le_mul_left _ hpos
        omega
  refine key _ Z (Nat.le_refl _) (fun _ _ _ => rfl) hu ⟨1, 0, by omega⟩ (fun j hj => ?_) (fun _ _ _ => hn_Same_rf) pr_Det_rf
  have p1 : 1 ≤ (Z t c).natAbs := by omega
  have p2 : 1 ≤ (Z s c).natAbs := by omega
  have q1 : (Z s j).natAbs * 1 ≤ (Z s j).natAbs * (Z t c).natAbs := Nat.mul_le_mul_left _ p1
  have q2 : (Z t j).natAbs * 1 ≤ (Z t j).natAbs * (Z s c).natAbs := Nat.mul_le_mul_left _ p2
  unfold pr_Phi
  omega
/-- a new stair comes between -/
theorem gx_Ech {r : Nat} {p : Nat → Nat} {Z : Nat → Nat → Int} {s c : Nat} (hE : pr_Ech 8 r p Z) (hs : s ≤ r) (hz : ∀ j, j < c → Z r j = 0) (hc : c < 8) (hlo : ∀ l, l < s → p l < c) (hhi : ∀ l, s ≤ l → l < r → c < p l) (hne : Z r c ≠ 0)
    {Z1 : Nat → Nat → Int} (hZ1 : Z1 = if Z r c < 0 then pr_zn (pr_mv Z r s) s else pr_mv Z r s) : pr_Ech 8 (r + 1) (pr_np p r s c) Z1 := by
  generalize hq : pr_np p r s c = q
  have q1 : ∀ i, i < s → q i = p i := fun i hi => by rw [← hq]; unfold pr_np; rw [if_neg (by omega), if_neg (by omega)]
  have q2 : q s = c := by rw [← hq]; unfold pr_np; rw [if_pos rfl]
  have q3 : ∀ i, s < i → i ≤ r → q i = p (i - 1) := fun i a b => by rw [← hq]; unfold pr_np; rw [if_neg (by omega), if_pos ⟨a, b⟩]
  have r1 : ∀ i, i < s → Z1 i = Z i := by
    intro i hi; funext j; rw [hZ1]
    have e : pr_mv Z r s i j = Z i j := by unfold pr_mv; rw [if_neg (by omega), if_neg (by omega)]
    split
    · unfold pr_zn; rw [if_neg (by omega)]; exact e
    · exact e
  have r2 : ∀ i, s < i → i ≤ r → Z1 i = Z (i - 1) := by
    intro i hi hit; funext j; rw [hZ1]
    have e : pr_mv Z r s i j = Z (i - 1) j := by unfold pr_mv; rw [if_neg (by omega), if_pos ⟨hi, hit⟩]
    split
    · unfold pr_zn; rw [if_neg (by omega)]; exact e
    · exact e
  have e0 : ∀ j, pr_mv Z r s s j = Z r j := fun j => by unfold pr_mv; rw [if_pos rfl]
  have r3 : ∀ j, (Z1 s j).natAbs = (Z r j).natAbs := by
    intro j; rw [hZ1]
    split
    · unfold pr_zn; rw [if_pos rfl, Int.natAbs_neg, e0]
    · rw [e0]
  have r4 : 0 < Z1 s c := by
    rw [hZ1]
    split
    · unfold pr_zn; rw [if_pos rfl, e0]; omega
    · rw [e0]; omega
  refine ⟨fun i hi => ?_, fun i k a b => ?_, fun i j hi hj => ?_, fun i hi => ?_⟩
  · rcases Nat.lt_trichotomy i s with z | z | z
    · rw [q1 i z]; exact hE.1 i (by omega)
    · rw [z, q2]; exact hc
    · rw [q3 i z (by omega)]; exact hE.1 (i - 1) (by omega)
  · rcases Nat.lt_trichotomy i s with z | z | z <;> rcases Nat.lt_trichotomy k s with y | y | y
    · rw [q1 i z, q1 k y]; exact hE.2.1 i k a (by omega)
    · rw [q1 i z, y, q2]; exact hlo i z
    · rw [q1 i z, q3 k y (by omega)]
      exact hE.2.1 i (k - 1) (by omega) (by omega)
    · omega
    · omega
    · rw [z, q2, q3 k y (by omega)]; exact hhi (k - 1) (by omega) (by omega)
    · omega
    · omega
    · rw [q3 i z (by omega), q3 k y (by omega)]; exact hE.2.1 (i - 1) (k - 1) (by omega) (by omega)
  · rcases Nat.lt_trichotomy i s with z | z | z
    · rw [q1 i z] at hj; rw [r1 i z]; exact hE.2.2.1 i j (by omega) hj
    · rw [z, q2] at hj; rw [z]
      have := r3 j; rw [hz j hj] at this; omega
    · rw [q3 i z (by omega)] at hj; rw [r2 i z (by omega)]; exact hE.2.2.1 (i - 1) j (by omega) hj
  · rcases Nat.lt_trichotomy i s with z | z | z
    · rw [q1 i z, r1 i z]; exact hE.2.2.2 i (by omega)
    · rw [z, q2]; exact r4
    · rw [q3 i z (by omega), r2 i z (by omega)]; exact hE.2.2.2 (i - 1) (by omega)
theorem gx_step {t : Nat} {M : Nat → Nat → Int} {p : Nat → Nat} {Z0 : Nat → Nat → Int} (hM : pr_Mat 4 M) (ht : t < 4) (hG : pr_Got 8 4 t M p Z0) : ∃ p' Z', pr_Got 8 4 (t + 1) M p' Z' := by
  have hF := pr_gotF (n := 8) (w := 4) (h := 4) rfl (by omega) ht hM hG
  have key : ∀ (d c s : Nat) (Z : Nat → Nat → Int), c + d = 8 → s ≤ t → (∀ l, l < s → p l < c) → (∀ l, s ≤ l → l < t → c ≤ p l) → pr_Ech 8 t p Z → (∀ j, j < c → Z t j = 0) → (∀ i, t < i → Z i = Z0 i) → (∀ k, t < k → hn_Same 8 k Z0 Z) → pr_Det Z0 Z → ∃ p' Z', pr_Got 8 4 (t + 1) M p' Z' := by
    intro d
    induction d with
    | zero =>
      intro c s Z hc hs hlo hhi hE hz hgt hS hD
      exact absurd (pr_free (n := 8) ht hF (hS (t + 1) (by omega)) hD (fun j hj => hz j (by omega))) (fun h => h.elim)
    | succ d ih =>
      intro c s Z hc hs hlo hhi hE hz hgt hS hD
      by_cases h0 : Z t c = 0
      · have hz' : ∀ j, j < c + 1 → Z t j = 0 := by
          intro j hj
          rcases Nat.eq_or_lt_of_le (Nat.le_of_lt_succ hj) with z | z
          · rw [z]; exact h0
          · exact hz j z
        by_cases hb : s < t ∧ p s = c
        · refine ih (c + 1) (s + 1) Z (by omega) (by omega) (fun l hl => ?_) (fun l hl hlr => ?_) hE hz' hgt hS hD
          · rcases Nat.eq_or_lt_of_le (Nat.le_of_lt_succ hl) with z | z
            · rw [z]; omega
            · have := hlo l z; omega
          · have := hE.2.1 s l (by omega) hlr; omega
        · refine ih (c + 1) s Z (by omega) hs (fun l hl => by have := hlo l hl; omega) (fun l hl hlr => ?_) hE hz' hgt hS hD
          have a := hhi l hl hlr
          rcases Nat.eq_or_lt_of_le a with z | z
          · exfalso
            rcases Nat.eq_or_lt_of_le hl with y | y
            · exact hb ⟨by omega, by rw [y]; exact z.symm⟩
            · have b := hE.2.1 s l y hlr; have c := hhi s (Nat.le_refl _) (by omega); omega
          · exact z
      · by_cases hb : s < t ∧ p s = c
        · obtain ⟨hst, ec⟩ := hb
          have hus := hE.2.2.2 s hst
          obtain ⟨Z1, c1, c2, c3, -, c5, c6, c7⟩ := gx_clear (Z := Z) (s := s) (t := t) (c := c) (by omega) ht (by omega) (by rw [← ec]; omega) h0
          have hph0 : ∀ j, j < c → pr_Phi Z s t c j = 0 := by
            intro j hj
            unfold pr_Phi
            rw [hE.2.2.1 s j hst (by omega), hz j hj]; simp
          refine ih (c + 1) (s + 1) Z1 (by omega) (by omega) (fun l hl => ?_) (fun l hl hlr => ?_) ⟨hE.1, hE.2.1, fun i j hi hj => ?_, fun i hi => ?_⟩ (fun j hj => ?_) (fun i hi => by rw [c1 i (by omega) (by omega)]; exact hgt i hi) (fun k hk => hn_Same_tr (hS k hk) (c6 k (by omega) hk)) (pr_Det_tr hD c7)
          · rcases Nat.eq_or_lt_of_le (Nat.le_of_lt_succ hl) with z | z
            · rw [z]; omega
            · have := hlo l z; omega
          · have := hE.2.1 s l (by omega) hlr; omega
          · by_cases e : i = s
            · subst e
              have := (c5 j (by omega)).1
              rw [hph0 j (by omega)] at this; omega
            · rw [c1 i e (by omega)]; exact hE.2.2.1 i j hi hj
          · by_cases e : i = s
            · subst e; rw [ec]; exact c3
            · rw [c1 i e (by omega)]; exact hE.2.2.2 i hi
          · rcases Nat.eq_or_lt_of_le (Nat.le_of_lt_succ hj) with z | z
            · rw [z]; exact c2
            · have := (c5 j (by omega)).2
              rw [hph0 j z] at this; omega
        · have hhi' : ∀ l, s ≤ l → l < t → c < p l := by
            intro l hl hlr
            have a := hhi l hl hlr
            rcases Nat.eq_or_lt_of_le a with z | z
            · exfalso
              rcases Nat.eq_or_lt_of_le hl with y | y
              · exact hb ⟨by omega, by rw [y]; exact z.symm⟩
              · have b := hE.2.1 s l y hlr; have c := hhi s (Nat.le_refl _) (by omega); omega
            · exact z
          have hE1 := gx_Ech hE hs hz (by omega) hlo hhi' h0 (Z1 := if Z t c < 0 then pr_zn (pr_mv Z t s) s else pr_mv Z t s) rfl
          have ops : (∀ k, t < k → hn_Same 8 k Z (if Z t c < 0 then pr_zn (pr_mv Z t s) s else pr_mv Z t s)) ∧ pr_Det Z (if Z t c < 0 then pr_zn (pr_mv Z t s) s else pr_mv Z t s) ∧ ∀ i, t < i → (if Z t c < 0 then pr_zn (pr_mv Z t s) s else pr_mv Z t s) i = Z i := by
            refine ⟨fun k hk => ?_, ?_, fun i hi => ?_⟩
            · have a := (pr_Same_mv (n := 8) Z (u := s) hs hk).1
              split
              · exact hn_Same_tr a (pr_Same_n _ (by omega))
              · exact a
            · have a := (pr_Same_mv (n := 8) (k := t + 1) Z (u := s) hs (by omega)).2 ht
              split
              · exact pr_Det_tr a (pr_Det_n _ (by omega))
              · exact a
            · funext j
              have e : pr_mv Z t s i j = Z i j := by unfold pr_mv; rw [if_neg (by omega), if_neg (by omega)]
              split
              · unfold pr_zn; rw [if_neg (by omega)]; exact e
              · exact e
          generalize hZ1 : (if Z t c < 0 then pr_zn (pr_mv Z t s) s else pr_mv Z t s) = Z1 at hE1 ops
          have k1 := pr_kS_base (t := t) hE1
          have k2 := pr_kS_op (n := 8) Z1 (p := pr_np p t s c) (b := t + 1) (t := t) (Nat.le_refl _) ht (t + 1) (Nat.le_refl _)
          have k3 : ∀ i, t < i → pr_kS Z1 (pr_np p t s c) (t + 1) t (t + 1) i = Z1 i := fun i hi => pr_kS_row (t + 1) i (by omega) (by omega)
          exact ⟨_, _, k1, fun i hi => by rw [k3 i (by omega), ops.2.2 i (by omega), hgt i (by omega)]; exact hG.2.1 i (by omega), fun k hk => hn_Same_tr (hG.2.2.1 k (by omega)) (hn_Same_tr (hS k (by omega)) (hn_Same_tr (ops.1 k (by omega)) (k2.1 k (by omega)))), pr_Det_tr hG.2.2.2 (pr_Det_tr hD (pr_Det_tr ops.2.1 k2.2))⟩
  exact key 8 0 0 Z0 (by omega) (by omega) (fun l hl => by omega) (fun l _ _ => by omega) ⟨hG.1.1, hG.1.2.1, hG.1.2.2.1, hG.1.2.2.2.1⟩ (fun j hj => by omega) (fun _ _ => rfl) (fun _ _ => hn_Same_rf) pr_Det_rf
theorem gx_got {M : Nat → Nat → Int} (hM : pr_Mat 4 M) : ∀ t, t ≤ 4 → ∃ p Z, pr_Got 8 4 t M p Z := by
  intro t
  induction t with
  | zero => intro _; exact ⟨fun _ => 0, M, ⟨fun i hi => by omega, fun i k _ hk => by omega, fun i j hi => by omega, fun i hi => by omega, fun i k _ hk => by omega⟩, fun _ _ => rfl, fun _ _ => hn_Same_rf, pr_Det_rf⟩
  | succ t ih =>
    intro ht
    obtain ⟨p, Z, h⟩ := ih (by omega)
    exact gx_step hM (by omega) h
