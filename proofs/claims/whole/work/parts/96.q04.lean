/-! insert of the reference: Euclid's steps between a stair and the row. -/
theorem mi_swp {c e m k : Int32} {g : Nat → Int32} {a : Nat} {q : Int64} {post : (Nat → Int64) → (Nat → Int32) → (Nat → Int64) → Prop} {K2 : (Nat → Int64) → (Nat → Int64) → Int32 → Prop} {K95 : (Nat → Int64) → (Nat → Int64) → Prop} {f rw0 : Nat → Int64} (ha : a < 8)
    (h : ∀ f' rw', (∀ x y, x < 8 → y < 8 → f' (8 * x + y) = if x = a then rw0 y else f (8 * x + y)) → (∀ y, y < 8 → rw' y = f (8 * a + y) - q * rw0 y) → K95 f' rw') : wp_MD_insert_128 c e m k g (nI a) q post K2 K95 f rw0 0 := by
  intro P hP
  have key : ∀ (d y : Nat) (f1 rw1 : Nat → Int64), y + d = 8 → (∀ x z, x < 8 → z < 8 → f1 (8 * x + z) = if x = a ∧ z < y then rw0 z else f (8 * x + z)) → (∀ z, z < 8 → rw1 z = if z < y then f (8 * a + z) - q * rw0 z else rw0 z) → P f1 rw1 (nI y) := by
    intro d
    induction d with
    | zero =>
      intro y f1 rw1 hy h1 h2
      refine hP f1 rw1 (nI y) ⟨fun _ => ?_, fun w => ?_⟩
      · refine h f1 rw1 (fun x z hx hz => ?_) (fun z hz => ?_)
        · rw [h1 x z hx hz]; exact pz_ite (by omega)
        · rw [h2 z hz, if_pos (by omega)]
      · rw [show (8 : Int32) = nI 8 from rfl, pz_le (by omega) (by omega)] at w; omega
    | succ d ih =>
      intro y f1 rw1 hy h1 h2
      refine hP f1 rw1 (nI y) ⟨fun w => ?_, fun _ => ?_⟩
      · rw [show (8 : Int32) = nI 8 from rfl, pz_le (by omega) (by omega)] at w; omega
      rw [pz_8', pz_c (show 8 * a + y < 1000 by omega), pz_c (show y < 1000 by omega)]
      refine ⟨pz_in (by omega) (by omega), pz_in (by omega) (by omega), fun v hv => ⟨pz_in (by omega) (by omega), pz_in (by omega) (by omega), fun w hw => ⟨pz_in (by omega) (by omega), fun w2 hw2 v2 hv2 => ?_⟩⟩⟩
      have e1 : f1 (8 * a + y) = f (8 * a + y) := (h1 a y ha (by omega)).trans (if_neg (by omega))
      have e2 : rw1 y = rw0 y := (h2 y (by omega)).trans (if_neg (by omega))
      rw [hv2, nI_1]
      rw [e1, e2] at hv
      rw [e2] at hw
      refine ih (y + 1) w w2 (by omega) (fun x z hx hz => ?_) (fun z hz => ?_)
      · rw [hw, pz_updL]
        by_cases e3 : x = a ∧ z = y
        · rw [e3.1, e3.2, if_pos rfl]; exact (if_pos ⟨rfl, by omega⟩).symm
        · rw [if_neg (by omega), h1 x z hx hz]; exact pz_ite (by omega)
      · rw [hw2, pz_updL]
        by_cases e3 : z = y
        · rw [if_pos e3, if_pos (by omega), hv, e3]
        · rw [if_neg e3, h2 z hz]; exact pz_ite (by omega)
  exact key 8 0 f rw0 (by omega) (fun x z hx hz => (if_neg (by omega)).symm) (fun z hz => (if_neg (by omega)).symm)
theorem mi_neg {c e m k : Int32} {g : Nat → Int32} {a : Nat} {post : (Nat → Int64) → (Nat → Int32) → (Nat → Int64) → Prop} {K2 : (Nat → Int64) → (Nat → Int64) → Int32 → Prop} {f rw0 : Nat → Int64} (ha : a < 8)
    (h : ∀ f', (∀ x y, x < 8 → y < 8 → f' (8 * x + y) = if x = a then -f (8 * a + y) else f (8 * x + y)) → wp_MD_insert_259 c e m k g post K2 f' rw0 (nI a)) : wp_MD_insert_217 c e m k g post K2 f rw0 (nI a) 1 := by
  intro P hP
  have key : ∀ (d y : Nat) (f1 : Nat → Int64), y + d = 8 → (∀ x z, x < 8 → z < 8 → f1 (8 * x + z) = if x = a ∧ z < y then -f (8 * a + z) else f (8 * x + z)) → P f1 (nI y) := by
    intro d
    induction d with
    | zero =>
      intro y f1 hy h1
      refine hP f1 (nI y) ⟨fun _ => h f1 (fun x z hx hz => ?_), fun w => ?_⟩
      · rw [h1 x z hx hz]; exact pz_ite (by omega)
      · rw [show (8 : Int32) = nI 8 from rfl, pz_le (by omega) (by omega)] at w; omega
    | succ d ih =>
      intro y f1 hy h1
      refine hP f1 (nI y) ⟨fun w => ?_, fun _ => ⟨fun w => absurd w (by decide), fun _ => ?_⟩⟩
      · rw [show (8 : Int32) = nI 8 from rfl, pz_le (by omega) (by omega)] at w; omega
      rw [pz_8', pz_c (show 8 * a + y < 1000 by omega)]
      refine ⟨pz_in (by omega) (by omega), pz_in (by omega) (by omega), fun w hw v2 hv2 => ?_⟩
      have e1 : f1 (8 * a + y) = f (8 * a + y) := (h1 a y ha (by omega)).trans (if_neg (by omega))
      rw [hv2, nI_1]
      rw [e1] at hw
      refine ih (y + 1) w (by omega) (fun x z hx hz => ?_)
      rw [hw, pz_updL]
      by_cases e3 : x = a ∧ z = y
      · rw [e3.1, e3.2, if_pos rfl]; exact (if_pos ⟨rfl, by omega⟩).symm
      · rw [if_neg (by omega), h1 x z hx hz]; exact pz_ite (by omega)
  exact key 8 0 f (by omega) (fun x z hx hz => (if_neg (by omega)).symm)
theorem mi_neg0 {c e m k : Int32} {g : Nat → Int32} {a : Nat} {post : (Nat → Int64) → (Nat → Int32) → (Nat → Int64) → Prop} {K2 : (Nat → Int64) → (Nat → Int64) → Int32 → Prop} {f rw0 : Nat → Int64}
    (h : wp_MD_insert_259 c e m k g post K2 f rw0 (nI a)) : wp_MD_insert_217 c e m k g post K2 f rw0 (nI a) 0 := by
  intro P hP
  exact hP f 0 ⟨fun _ => h, fun _ => ⟨fun _ => h, fun w => absurd rfl w⟩⟩
theorem mi_inj {r : Nat} {p : Nat → Nat} {Z : Nat → Nat → Int} (hE : pr_Ech 8 r p Z) {a b : Nat} (ha : a < r) (hb : b < r) (e : p a = p b) : a = b := by
  rcases Nat.lt_trichotomy a b with y | y | y
  · have := hE.2.1 a b y hb; omega
  · exact y
  · have := hE.2.1 b a y ha; omega
theorem mi_clear {r s : Nat} {p : Nat → Nat} {Z : Nat → Nat → Int} {c e m k : Int32} {g : Nat → Int32} {post : (Nat → Int64) → (Nat → Int32) → (Nat → Int64) → Prop} {K2 : (Nat → Int64) → (Nat → Int64) → Int32 → Prop} {f rw0 : Nat → Int64}
    (hr : r < 4) (hs : s < r) (hE : pr_Ech 8 r p Z) (hR : mi_Rep r p f g Z) (hw : ∀ y, y < 8 → rw0 y = Int64.ofInt (Z r y)) (hv : Z r (p s) ≠ 0) (hF : pr_Phi Z s r (p s) (p s) < 4611686018427387904)
    (hp : ∀ f' rw' Z', mi_Rep r p f' g Z' → (∀ y, y < 8 → rw' y = Int64.ofInt (Z' r y)) → pr_Cl 8 Z Z' s r (p s) → wp_MD_insert_259 c e m k g post K2 f' rw' (nI (p s))) : wp_MD_insert_95 c e m k g (nI (p s)) post K2 f rw0 := by
  intro P hP
  have hc := hE.1 s hs
  have hu : Z s (p s) ≠ 0 := by have := hE.2.2.2 s hs; omega
  have hne : s ≠ r := by omega
  have fin : ∀ (f1 rw1 : Nat → Int64) (Y : Nat → Nat → Int), mi_Rep r p f1 g Y → (∀ y, y < 8 → rw1 y = Int64.ofInt (Y r y)) → (∀ i, i ≠ s → i ≠ r → Y i = Z i) → Y s (p s) ≠ 0 → Y r (p s) = 0 → (∃ α β, Z s (p s) = α * Y s (p s) + β * Y r (p s)) → (∀ j, j < 8 → (Y s j).natAbs ≤ pr_Phi Z s r (p s) j ∧ (Y r j).natAbs ≤ pr_Phi Z s r (p s) j) → (∀ k, s < k → r < k → hn_Same 8 k Z Y) → pr_Det Z Y →
      ((0 ≤ lg_cmp (f1 (8 * p s + p s)) 0 → wp_MD_insert_217 c e m k g post K2 f1 rw1 (nI (p s)) 0) ∧ (¬ 0 ≤ lg_cmp (f1 (8 * p s + p s)) 0 → wp_MD_insert_217 c e m k g post K2 f1 rw1 (nI (p s)) 1)) := by
    intro f1 rw1 Y hR1 hw1 ho h0 h1 ⟨α, β, hα⟩ hB hSm hDt
    have hsm : pr_sm (Y s (p s)) := Nat.lt_of_le_of_lt (hB (p s) hc).1 hF
    rw [hR1.1 s (p s) hs hc, pr_cmpge hsm]
    refine ⟨fun q => mi_neg0 (hp f1 rw1 Y hR1 hw1 ⟨ho, h1, by omega, ⟨α, by rw [hα, h1]; omega⟩, hB, hSm, hDt⟩), fun q => ?_⟩
    refine mi_neg hc (fun f2 hf2 => hp f2 rw1 (pr_zn Y s) ⟨fun k2 c2 hk2 hc2 => ?_, hR1.2⟩ (fun y hy => ?_) ?_)
    · rw [hf2 (p k2) c2 (hE.1 k2 hk2) hc2]
      unfold pr_zn
      by_cases e1 : k2 = s
      · rw [e1, if_pos rfl, if_pos rfl, hR1.1 s c2 hs hc2, Int64.ofInt_neg]
      · rw [if_neg (fun z => e1 (mi_inj hE hk2 hs z)), if_neg e1, hR1.1 k2 c2 hk2 hc2]
    · rw [hw1 y hy]; simp [pr_zn, show ¬ r = s by omega]
    · refine ⟨fun i a b => ?_, ?_, ?_, ⟨-α, ?_⟩, fun j hj => ?_, fun k a b => hn_Same_tr (hSm k a b) (pr_Same_n Y a), pr_Det_tr hDt (pr_Det_n Y (by omega))⟩
      · funext j; simp [pr_zn, a, ho i a b]
      · simp [pr_zn, show ¬ r = s by omega, h1]
      · simp only [pr_zn, if_true]; omega
      · simp only [pr_zn, if_true]
        rw [hα, h1, Int.neg_mul_neg]; omega
      · simp only [pr_zn, if_true, if_neg (show ¬ r = s by omega), Int.natAbs_neg]
        exact hB j hj
  have key : ∀ (d : Nat) (f1 rw1 : Nat → Int64) (Y : Nat → Nat → Int), (Y r (p s)).natAbs ≤ d → mi_Rep r p f1 g Y → (∀ y, y < 8 → rw1 y = Int64.ofInt (Y r y)) → (∀ i, i ≠ s → i ≠ r → Y i = Z i) → Y s (p s) ≠ 0 → (∃ α β, Z s (p s) = α * Y s (p s) + β * Y r (p s)) →
      (∀ j, j < 8 → (Y s j).natAbs * (Y r (p s)).natAbs + (Y r j).natAbs * (Y s (p s)).natAbs ≤ pr_Phi Z s r (p s) j ∧ (Y s j).natAbs ≤ pr_Phi Z s r (p s) j ∧ (Y r j).natAbs ≤ pr_Phi Z s r (p s) j) → (∀ k, s < k → r < k → hn_Same 8 k Z Y) → pr_Det Z Y → P f1 rw1 := by
    intro d
    induction d with
    | zero =>
      intro f1 rw1 Y hd hR1 hw1 ho h0 hα hB hSm hDt
      have hz : Y r (p s) = 0 := by omega
      refine hP f1 rw1 ⟨pz_in hc (by omega), ?_⟩
      rw [pz_c (by omega), hw1 (p s) hc, hz, pz_8', pz_c (show 8 * p s + p s < 1000 by omega)]
      exact ⟨fun _ => ⟨pz_in (by omega) (by omega), fin f1 rw1 Y hR1 hw1 ho h0 hz hα (fun j hj => (hB j hj).2) hSm hDt⟩, fun q => absurd (by decide) q⟩
    | succ d ih =>
      intro f1 rw1 Y hd hR1 hw1 ho h0 hα0 hB hSm hDt
      have hsm : pr_sm (Y r (p s)) := Nat.lt_of_le_of_lt (hB (p s) hc).2.2 hF
      have hsm2 : pr_sm (Y s (p s)) := Nat.lt_of_le_of_lt (hB (p s) hc).2.1 hF
      refine hP f1 rw1 ⟨pz_in hc (by omega), ?_⟩
      rw [pz_c (by omega), hw1 (p s) hc, pr_cmp0 hsm, pz_8', pz_c (show 8 * p s + p s < 1000 by omega)]
      refine ⟨fun hz => ⟨pz_in (by omega) (by omega), fin f1 rw1 Y hR1 hw1 ho h0 hz hα0 (fun j hj => (hB j hj).2) hSm hDt⟩, fun q => ⟨pz_in (by omega) (by omega), pz_in hc (by omega), fun v hv => ⟨?_, fun v2 hv2 => ?_⟩⟩⟩
      · rw [hv]; exact fun e => q ((pr_eq0 hsm).mp e)
      obtain ⟨α, β, hα⟩ := hα0
      rw [hv, hR1.1 s (p s) hs hc, pr_tdiv hsm2 hsm] at hv2
      refine mi_swp hc (fun f2 rw2 hf2 hr2 => ?_)
      have es : ∀ j, pr_zs (pr_zt Y s r ((Y s (p s)).tdiv (Y r (p s)))) s r s j = Y r j := fun j => by simp [pr_zs, pr_zt, show ¬ r = s by omega]
      have et : ∀ j, pr_zs (pr_zt Y s r ((Y s (p s)).tdiv (Y r (p s)))) s r r j = Y s j - (Y s (p s)).tdiv (Y r (p s)) * Y r j := fun j => by simp [pr_zs, pr_zt, show ¬ r = s by omega]
      have hr9 := pr_rest (Y s (p s)) (Y r (p s)) q
      have ha9 := pr_absdiv (Y s (p s)) (Y r (p s))
      refine ih f2 rw2 (pr_zs (pr_zt Y s r ((Y s (p s)).tdiv (Y r (p s)))) s r) ?_ ⟨fun k2 c2 hk2 hc2 => ?_, hR1.2⟩ (fun y hy => ?_) (fun i a b => ?_) ?_ ⟨α * (Y s (p s)).tdiv (Y r (p s)) + β, α, ?_⟩ (fun j hj => ?_) (fun k a b => hn_Same_tr (hSm k a b) (hn_Same_tr (pr_Same_t Y _ a b hne) (pr_Same_s _ a b))) (pr_Det_tr hDt (pr_Det_tr (pr_Det_t Y _ (by omega) (by omega) hne) (pr_Det_s _ (by omega) (by omega) hne)))
      · rw [et]; omega
      · rw [hf2 (p k2) c2 (hE.1 k2 hk2) hc2]
        by_cases e1 : k2 = s
        · rw [e1, if_pos rfl, es, hw1 c2 hc2]
        · rw [if_neg (fun z => e1 (mi_inj hE hk2 hs z)), hR1.1 k2 c2 hk2 hc2]
          simp [pr_zs, pr_zt, e1, show ¬ k2 = r by omega]
      · rw [hr2 y hy, et, hR1.1 s y hs hy, hw1 y hy, hv2, Int64.ofInt_sub, Int64.ofInt_mul]
      · funext j; simp [pr_zs, pr_zt, a, b, ho i a b]
      · rw [es]; exact q
      · rw [es, et, hα]; grind
      · rw [es, et, es, et]
        have b1 := hB j hj
        have x1 := pr_abs_sub_mul (Y s j) ((Y s (p s)).tdiv (Y r (p s))) (Y r j)
        have k1 := pr_Phi_step ha9 x1 b1.1
        refine ⟨k1, b1.2.2, ?_⟩
        have hpos : 1 ≤ (Y r (p s)).natAbs := by omega
        have : (Y s j - (Y s (p s)).tdiv (Y r (p s)) * Y r j).natAbs * 1 ≤ (Y s j - (Y s (p s)).tdiv (Y r (p s)) * Y r j).natAbs * (Y r (p s)).natAbs := Nat.mul_le_mul_left _ hpos
        omega
  refine key _ f rw0 Z (Nat.le_refl _) hR hw (fun _ _ _ => rfl) hu ⟨1, 0, by omega⟩ (fun j hj => ?_) (fun _ _ _ => hn_Same_rf) pr_Det_rf
  have p1 : 1 ≤ (Z r (p s)).natAbs := by omega
  have p2 : 1 ≤ (Z s (p s)).natAbs := by omega
  have q1 : (Z s j).natAbs * 1 ≤ (Z s j).natAbs * (Z r (p s)).natAbs := Nat.mul_le_mul_left _ p1
  have q2 : (Z r j).natAbs * 1 ≤ (Z r j).natAbs * (Z s (p s)).natAbs := Nat.mul_le_mul_left _ p2
  unfold pr_Phi
  omega
