/-! Euclid's steps between two rows. -/
theorem pr_absdiv (a b : Int) : a.natAbs = (a.tdiv b).natAbs * b.natAbs + (a - a.tdiv b * b).natAbs := by
  have h1 : a - a.tdiv b * b = a.tmod b := by
    have := Int.tmod_add_mul_tdiv a b
    have e : b * a.tdiv b = a.tdiv b * b := Int.mul_comm _ _
    omega
  rw [h1, Int.natAbs_tdiv, Int.natAbs_tmod]
  exact (Nat.div_add_mod' a.natAbs b.natAbs).symm
theorem pr_rest (a b : Int) (hb : b ≠ 0) : (a - a.tdiv b * b).natAbs < b.natAbs := by
  have h1 : a - a.tdiv b * b = a.tmod b := by
    have := Int.tmod_add_mul_tdiv a b
    have e : b * a.tdiv b = a.tdiv b * b := Int.mul_comm _ _
    omega
  rw [h1, Int.natAbs_tmod]
  exact Nat.mod_lt _ (by omega)
/-- what does not grow -/
def pr_Phi (Z : Nat → Nat → Int) (s t c j : Nat) : Nat := (Z s j).natAbs * (Z t c).natAbs + (Z t j).natAbs * (Z s c).natAbs
theorem pr_Phi_step {U V a b q r X F : Nat} (ha : a = q * b + r) (hX : X ≤ U + q * V) (h : U * b + V * a ≤ F) : V * r + X * b ≤ F := by
  have h1 : X * b ≤ (U + q * V) * b := Nat.mul_le_mul_right b hX
  have h2 : (U + q * V) * b = U * b + V * (q * b) := by grind
  have h3 : V * a = V * (q * b) + V * r := by rw [ha, Nat.mul_add]
  omega
theorem pr_abs_sub_mul (u q v : Int) : (u - q * v).natAbs ≤ u.natAbs + q.natAbs * v.natAbs := by
  have := Int.natAbs_sub_le u (q * v)
  rw [Int.natAbs_mul] at this
  exact this
/-- Z' came out of Z by Euclid's steps between rows s and t at the column c -/
def pr_Cl (n : Nat) (Z Z' : Nat → Nat → Int) (s t c : Nat) : Prop :=
  (∀ i, i ≠ s → i ≠ t → Z' i = Z i) ∧ Z' t c = 0 ∧ 0 < Z' s c ∧ (∃ α, Z s c = α * Z' s c) ∧ (∀ j, j < n → (Z' s j).natAbs ≤ pr_Phi Z s t c j ∧ (Z' t j).natAbs ≤ pr_Phi Z s t c j) ∧ (∀ k, s < k → t < k → hn_Same n k Z Z') ∧ pr_Det Z Z'
theorem pr_clear {h w n N : Nat} {xi : Int32} {f : Nat → Int64} {Z : Nat → Nat → Int} {s t c : Nat} {post : (Nat → Int64) → Prop} (hn : w + h = n) (hn8 : n ≤ 8) (hnN : n ≤ N) (hs : s < 4) (ht : t < 4) (hne : s ≠ t) (hc : c < n) (hR : pr_Rep n f Z)
    (hu : Z s c ≠ 0) (hv : Z t c ≠ 0) (hv9 : (Z t c).natAbs ≤ 900) (hF : pr_Phi Z s t c c < 4611686018427387904) (hp : ∀ f' Z', pr_Rep n f' Z' → pr_Cl N Z Z' s t c → post f') : wp_RD_clearNewest (nI h) (nI w) xi f (nI s) (nI t) (nI c) post := by
  intro P hP
  have fin : ∀ (g : Nat → Int64) (Y : Nat → Nat → Int), pr_Rep n g Y → (∀ i, i ≠ s → i ≠ t → Y i = Z i) → Y s c ≠ 0 → Y t c = 0 → (∃ α β, Z s c = α * Y s c + β * Y t c) → (∀ j, j < N → (Y s j).natAbs ≤ pr_Phi Z s t c j ∧ (Y t j).natAbs ≤ pr_Phi Z s t c j) → (∀ k, s < k → t < k → hn_Same N k Z Y) → pr_Det Z Y →
      wp_RD_clearNewest_53 (nI h) (nI w) xi (nI s) (nI c) post g := by
    intro g Y hRg ho h0 h1 ⟨α, β, hα⟩ hB hSm hDt
    have hsm : pr_sm (Y s c) := Nat.lt_of_le_of_lt (hB c (by omega)).1 hF
    unfold wp_RD_clearNewest_53
    refine pz_cell hs (by omega) ?_
    rw [hRg s c hs hc, pr_cmpge hsm]
    refine ⟨fun q => hp g Y hRg ⟨ho, h1, by omega, ⟨α, by rw [hα, h1]; omega⟩, hB, hSm, hDt⟩, fun q => ?_⟩
    refine pz_turn hn hn8 hs (fun g' hg' => hp g' _ (pr_Rep_n hn8 hs hRg hg') ?_)
    refine ⟨fun i a b => ?_, ?_, ?_, ⟨-α, ?_⟩, fun j hj => ?_, fun k a b => hn_Same_tr (hSm k a b) (pr_Same_n Y a), pr_Det_tr hDt (pr_Det_n Y hs)⟩
    · funext j; simp [pr_zn, a, ho i a b]
    · simp [pr_zn, show ¬ t = s from fun q => hne q.symm, h1]
    · simp only [pr_zn, if_true]; omega
    · simp only [pr_zn, if_true]
      rw [hα, h1, Int.neg_mul_neg]; omega
    · simp only [pr_zn, if_true, if_neg (show ¬ t = s from fun q => hne q.symm), Int.natAbs_neg]
      exact hB j hj
  have key : ∀ (d m : Nat) (g : Nat → Int64) (Y : Nat → Nat → Int), (Y t c).natAbs ≤ d → m + d ≤ 900 → pr_Rep n g Y → (∀ i, i ≠ s → i ≠ t → Y i = Z i) → Y s c ≠ 0 → (∃ α β, Z s c = α * Y s c + β * Y t c) →
      (∀ j, j < N → (Y s j).natAbs * (Y t c).natAbs + (Y t j).natAbs * (Y s c).natAbs ≤ pr_Phi Z s t c j ∧ (Y s j).natAbs ≤ pr_Phi Z s t c j ∧ (Y t j).natAbs ≤ pr_Phi Z s t c j) → (∀ k, s < k → t < k → hn_Same N k Z Y) → pr_Det Z Y → P g (nI m) := by
    intro d
    induction d with
    | zero =>
      intro m g Y hd hm hRg ho h0 hα hB hSm hDt
      have hz : Y t c = 0 := by omega
      have hsm : pr_sm (Y t c) := Nat.lt_of_le_of_lt (hB c (by omega)).2.2 hF
      refine hP g (nI m) ⟨fun q => ?_, fun _ => ?_⟩
      · rw [show (1000 : Int32) = nI 1000 from rfl, pz_le (by omega) (by omega)] at q; omega
      · refine pz_cell ht (by omega) ?_
        rw [hRg t c ht hc, pr_cmp0 hsm]
        exact ⟨fun _ => fin g Y hRg ho h0 hz hα (fun j hj => (hB j hj).2) hSm hDt, fun q => absurd hz q⟩
    | succ d ih =>
      intro m g Y hd hm hRg ho h0 ⟨α, β, hα⟩ hB hSm hDt
      have hsm : pr_sm (Y t c) := Nat.lt_of_le_of_lt (hB c (by omega)).2.2 hF
      have hsm2 : pr_sm (Y s c) := Nat.lt_of_le_of_lt (hB c (by omega)).2.1 hF
      refine hP g (nI m) ⟨fun q => ?_, fun _ => ?_⟩
      · rw [show (1000 : Int32) = nI 1000 from rfl, pz_le (by omega) (by omega)] at q; omega
      · refine pz_cell ht (by omega) ?_
        rw [hRg t c ht hc, pr_cmp0 hsm]
        refine ⟨fun q => fin g Y hRg ho h0 q ⟨α, β, hα⟩ (fun j hj => (hB j hj).2) hSm hDt, fun q => ?_⟩
        refine pz_cell hs (by omega) (pz_cell ht (by omega) ?_)
        rw [hRg t c ht hc, hRg s c hs hc]
        refine ⟨fun e => q ((pr_eq0 hsm).mp e), ?_⟩
        refine pz_takeAway hn hn8 hs ht hne (fun g1 hg1 => ?_)
        have hR1 := pr_Rep_t hn8 hs ht hRg (pr_tdiv hsm2 hsm) hg1
        refine pz_swap hn hn8 hs ht hne (fun g2 hg2 => ?_)
        have hR2 := pr_Rep_s hn8 hs ht hR1 hg2
        intro v hv
        rw [hv, nI_1]
        have es : ∀ j, pr_zs (pr_zt Y s t ((Y s c).tdiv (Y t c))) s t s j = Y t j := fun j => by simp [pr_zs, pr_zt, show ¬ t = s from fun q => hne q.symm]
        have et : ∀ j, pr_zs (pr_zt Y s t ((Y s c).tdiv (Y t c))) s t t j = Y s j - (Y s c).tdiv (Y t c) * Y t j := fun j => by simp [pr_zs, pr_zt, show ¬ t = s from fun q => hne q.symm]
        have hr9 := pr_rest (Y s c) (Y t c) q
        have ha9 := pr_absdiv (Y s c) (Y t c)
        refine ih (m + 1) g2 _ ?_ (by omega) hR2 (fun i a b => ?_) ?_ ⟨α * (Y s c).tdiv (Y t c) + β, α, ?_⟩ (fun j hj => ?_) (fun k a b => hn_Same_tr (hSm k a b) (hn_Same_tr (pr_Same_t Y _ a b hne) (pr_Same_s _ a b))) (pr_Det_tr hDt (pr_Det_tr (pr_Det_t Y _ hs ht hne) (pr_Det_s _ hs ht hne)))
        · rw [et]; omega
        · funext j; simp [pr_zs, pr_zt, a, b, ho i a b]
        · rw [es]; exact q
        · rw [es, et, hα]; grind
        · rw [es, et, es, et]
          have b1 := hB j hj
          have x1 := pr_abs_sub_mul (Y s j) ((Y s c).tdiv (Y t c)) (Y t j)
          have k1 := pr_Phi_step ha9 x1 b1.1
          refine ⟨k1, b1.2.2, ?_⟩
          have hpos : 1 ≤ (Y t c).natAbs := by omega
          have : (Y s j - (Y s c).tdiv (Y t c) * Y t j).natAbs * 1 ≤ (Y s j - (Y s c).tdiv (Y t c) * Y t j).natAbs * (Y t c).natAbs := Nat.mul_le_mul_left _ hpos
          omega
  refine key 900 0 f Z hv9 (by omega) hR (fun _ _ _ => rfl) hu ⟨1, 0, by omega⟩ (fun j hj => ?_) (fun _ _ _ => hn_Same_rf) pr_Det_rf
  have p1 : 1 ≤ (Z t c).natAbs := by omega
  have p2 : 1 ≤ (Z s c).natAbs := by omega
  have q1 : (Z s j).natAbs * 1 ≤ (Z s j).natAbs * (Z t c).natAbs := Nat.mul_le_mul_left _ p1
  have q2 : (Z t j).natAbs * 1 ≤ (Z t j).natAbs * (Z s c).natAbs := Nat.mul_le_mul_left _ p2
  unfold pr_Phi
  omega
