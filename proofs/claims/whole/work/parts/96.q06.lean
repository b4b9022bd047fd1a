/-! insert of the reference: the row gets its place; the whole of insert. -/
def mi_k2 (R s : Nat) : Nat → Nat := fun i => if i < s then R + 1 else if i = s then mi_V s else 0
set_option maxHeartbeats 1000000 in
set_option maxRecDepth 100000 in
theorem mi_place {r : Nat} {p T : Nat → Nat} {Z0 Z : Nat → Nat → Int} {s c : Nat} (h0 : pr_Start 8 r p T Z0) (hs : s ≤ r) (hI : mi_Inv r p T Z0 s c Z) (hc : c < 8) (hlo : ∀ l, l < s → p l < c) (hhi : ∀ l, s ≤ l → l < r → c < p l) (hne : Z r c ≠ 0)
    {Z1 : Nat → Nat → Int} (hZ1 : Z1 = if Z r c < 0 then pr_zn (pr_mv Z r s) s else pr_mv Z r s) :
    pr_Ech 8 (r + 1) (pr_np p r s c) Z1 ∧ (∀ i, i < r + 1 → i < mi_S1 (r + 1) s i) ∧ (∃ R, ∀ i, i < r + 1 → mi_K (r + 1) (pr_np p r s c) Z1 i (mi_S1 (r + 1) s i) (mi_k2 R s i)) ∧ (∀ l, l < r + 1 → (Z1 l (pr_np p r s c l)).natAbs < 2305843009213693952) ∧ (∀ k, r < k → hn_Same 8 k Z0 Z1) := by
  have hr := h0.2.1
  obtain ⟨hB, hlow, hSm, hz, hV, hG⟩ := id hI
  generalize hq : pr_np p r s c = q
  have q1 : ∀ i, i < s → q i = p i := fun i hi => by rw [← hq]; unfold pr_np; rw [if_neg (by omega), if_neg (by omega)]
  have q2 : q s = c := by rw [← hq]; unfold pr_np; rw [if_pos rfl]
  have q3 : ∀ i, s < i → i ≤ r → q i = p (i - 1) := fun i a b => by rw [← hq]; unfold pr_np; rw [if_neg (by omega), if_pos ⟨a, b⟩]
  have r1 : ∀ i, i < s → Z1 i = Z i := by
    intro i hi; funext j; rw [hZ1]
    have e : pr_mv Z r s i j = Z i j := by unfold pr_mv; rw [if_neg (by omega), if_neg (by omega)]
    split
    · unfold pr_zn; rw [if_neg (by omega)]; exact e
    · exact e
  have r2 : ∀ i, s < i → i ≤ r → Z1 i = Z0 (i - 1) := by
    intro i hi hit; rw [← hlow (i - 1) (by omega) (by omega)]; funext j; rw [hZ1]
    have e : pr_mv Z r s i j = Z (i - 1) j := by unfold pr_mv; rw [if_neg (by omega), if_pos ⟨hi, hit⟩]
    split
    · unfold pr_zn; rw [if_neg (by omega)]; exact e
    · exact e
  have e0 : ∀ j, pr_mv Z r s s j = Z r j := fun j => by unfold pr_mv; rw [if_pos rfl]
  have r3 : ∀ j, (Z1 s j).natAbs = (Z r j).natAbs := by
    intro j; rw [hZ1]
    split
    · unfold pr_zn; rw [if_pos rfl, Int.natAbs_neg, e0]
    · rw [e0]
  have r4 : 0 < Z1 s c := by
    rw [hZ1]
    split
    · unfold pr_zn; rw [if_pos rfl, e0]; omega
    · rw [e0]; omega
  have hpq : ∀ i, i < r + 1 → q i < 8 := by
    intro i hi
    rcases Nat.lt_trichotomy i s with z | z | z
    · rw [q1 i z]; exact hB.1 i (by omega)
    · rw [z, q2]; exact hc
    · rw [q3 i z (by omega)]; exact hB.1 (i - 1) (by omega)
  have hinc : ∀ i k, i < k → k < r + 1 → q i < q k := by
    intro i k a b
    rcases Nat.lt_trichotomy i s with z | z | z <;> rcases Nat.lt_trichotomy k s with y | y | y
    · rw [q1 i z, q1 k y]; exact hB.2.1 i k a (by omega)
    · rw [q1 i z, y, q2]; exact hlo i z
    · rw [q1 i z, q3 k y (by omega)]
      exact hB.2.1 i (k - 1) (by omega) (by omega)
    · omega
    · omega
    · rw [z, q2, q3 k y (by omega)]; exact hhi (k - 1) (by omega) (by omega)
    · omega
    · omega
    · rw [q3 i z (by omega), q3 k y (by omega)]; exact hB.2.1 (i - 1) (k - 1) (by omega) (by omega)
  have hzr : ∀ i j, i < r + 1 → j < q i → Z1 i j = 0 := by
    intro i j hi hj
    rcases Nat.lt_trichotomy i s with z | z | z
    · rw [q1 i z] at hj; rw [r1 i z]; exact hB.2.2.1 i j (by omega) hj
    · rw [z, q2] at hj; rw [z]
      have := r3 j; rw [hz j hj] at this; omega
    · rw [q3 i z (by omega)] at hj; rw [r2 i z (by omega)]; exact h0.2.2.1.2.2.1 (i - 1) j (by omega) hj
  have hps : ∀ i, i < r + 1 → 0 < Z1 i (q i) := by
    intro i hi
    rcases Nat.lt_trichotomy i s with z | z | z
    · rw [q1 i z, r1 i z]; exact hB.2.2.2.1 i (by omega)
    · rw [z, q2]; exact r4
    · rw [q3 i z (by omega), r2 i z (by omega)]; exact h0.2.2.1.2.2.2.1 (i - 1) (by omega)
  have hVb := mi_Vb s
  have hT := pr_T h0 s hs
  -- how large the first rows are
  have hRR : ∀ i j, i < s → j < 8 → (Z i j).natAbs ≤ s * 52000000000000000 / T s := fun i j hi hj => (Nat.le_div_iff_mul_le (by omega)).mpr (hG i j hi hj)
  have hRT : s * 52000000000000000 / T s * T s ≤ s * 52000000000000000 := Nat.div_mul_le_self _ _
  have hs3 : s * 52000000000000000 ≤ 3 * 52000000000000000 := Nat.mul_le_mul_right _ (by omega)
  have pl : ∀ l, s < l → l ≤ r → 1 ≤ (Z1 l (q l)).natAbs ∧ (Z1 l (q l)).natAbs ≤ 750 ∧ (Z1 l (q l)).natAbs ≤ T s := by
    intro l a b
    rw [q3 l a b, r2 l a b]
    have x := pr_piv h0 (l := l - 1) (by omega)
    have y := (mi_Tm h0 (s := s) (l - 1 - s) (by omega)).1
    rw [show s + (l - 1 - s) = l - 1 by omega] at y
    exact ⟨x.1, x.2, y⟩
  refine ⟨⟨hpq, hinc, hzr, hps⟩, fun i hi => ?_, ⟨s * 52000000000000000 / T s, fun i hi => ?_⟩, fun l hl => ?_, fun k hk => ?_⟩
  · unfold mi_S1; split
    · assumption
    · split <;> omega
  · rcases Nat.lt_trichotomy i s with z | z | z
    · have e1 : mi_S1 (r + 1) s i = s := by simp [mi_S1, z]
      have e2 : mi_k2 (s * 52000000000000000 / T s) s i = s * 52000000000000000 / T s + 1 := by simp [mi_k2, z]
      rw [e1, e2]
      generalize hR : s * 52000000000000000 / T s = R at *
      refine ⟨fun l x y w => ?_, fun l x y w => ?_, fun l x y w => ?_⟩
      · rw [r1 i z, r1 l w, q1 l w]; exact hB.2.2.2.2 i l x (by omega)
      · rcases Nat.eq_or_lt_of_le y with u | u
        · subst u
          rw [r1 i z, q2]
          have a := hRR i c z hc
          have b : (R + 1) * 1 ≤ (R + 1) * (Z1 s c).natAbs := Nat.mul_le_mul_left _ (by omega)
          omega
        · have a := hB.2.2.2.2 i (l - 1) (by omega) (by omega)
          rw [hlow (l - 1) (by omega) (by omega)] at a
          rw [r1 i z, q3 l u (by omega), r2 l u (by omega)]
          have b : 1 * (Z0 (l - 1) (p (l - 1))).natAbs ≤ (R + 1) * (Z0 (l - 1) (p (l - 1))).natAbs := Nat.mul_le_mul_right _ (by omega)
          omega
      · rcases Nat.eq_or_lt_of_le y with u | u
        · refine Or.inl ⟨u.symm, ?_⟩
          rw [r1 i z]
          have := mi_R h0 hs hI z (hpq l w)
          omega
        · refine Or.inr ?_
          have a := (pl l u (by omega)).2.2
          have b : 2 ^ (l - s) ≤ 2 ^ 2 := Nat.pow_le_pow_right (by decide) (by omega)
          have d : (R + 1) * 2 ^ (l - s) * (Z1 l (q l)).natAbs ≤ (R + 1) * 2 ^ 2 * T s := Nat.mul_le_mul (Nat.mul_le_mul_left _ b) a
          have e : (R + 1) * 2 ^ 2 * T s = 4 * (R * T s) + 4 * T s := by grind
          omega
    · subst z
      have e1 : mi_S1 (r + 1) i i = i + 1 := by simp [mi_S1]
      have e2 : mi_k2 (i * 52000000000000000 / T i) i i = mi_V i := by simp [mi_k2]
      rw [e1, e2]
      refine ⟨fun l x y w => by omega, fun l x y w => ?_, fun l x y w => Or.inr ?_⟩
      · have a := r3 (q l)
        have b := hV (q l) (hpq l w)
        have d := (pl l x (by omega)).1
        have : mi_V i * 1 ≤ mi_V i * (Z1 l (q l)).natAbs := Nat.mul_le_mul_left _ d
        omega
      · have b := (pl l x (by omega)).2.1
        have c : 2 ^ (l - (i + 1)) ≤ 2 ^ 2 := Nat.pow_le_pow_right (by decide) (by omega)
        have d : mi_V i * 2 ^ (l - (i + 1)) * (Z1 l (q l)).natAbs ≤ 68343750000000 * 2 ^ 2 * 750 := Nat.mul_le_mul (Nat.mul_le_mul hVb.2 c) b
        omega
    · have e1 : mi_S1 (r + 1) s i = r + 1 := by simp [mi_S1, show ¬ i < s by omega, show ¬ i = s by omega]
      rw [e1]
      refine ⟨fun l x y w => ?_, fun l x y w => by omega, fun l x y w => by omega⟩
      rw [r2 i z (by omega), r2 l (by omega) (by omega), q3 l (by omega) (by omega)]
      exact h0.2.2.1.2.2.2.2 (i - 1) (l - 1) (by omega) (by omega)
  · rcases Nat.lt_trichotomy l s with z | z | z
    · rw [r1 l z]
      have := mi_R h0 hs hI z (hpq l hl)
      omega
    · rw [z]
      have a := r3 (q s)
      have b := hV (q s) (hpq s (by omega))
      omega
    · have := pl l z (by omega); omega
  · have a := hn_Same_tr (hSm k hk) (pr_Same_mv (n := 8) Z (u := s) hs hk).1
    rw [hZ1]
    split
    · exact hn_Same_tr a (pr_Same_n _ (by omega))
    · exact a
/-- the row is written at its place -/
theorem mi_write {c e m k : Int32} {g : Nat → Int32} {a : Nat} {z : Int} {post : (Nat → Int64) → (Nat → Int32) → (Nat → Int64) → Prop} {f rw0 : Nat → Int64} (ha : a < 8) (hz : pr_sm z) (hr : rw0 a = Int64.ofInt z)
    (h : ∀ f', (∀ x y, x < 8 → y < 8 → f' (8 * x + y) = if x = a then (if z < 0 then -rw0 y else rw0 y) else f (8 * x + y)) → wp_MD_settle c e m k f' g (fun f2 => post f2 g rw0)) : wp_MD_insert_40 c e m k g rw0 (nI a) post f 0 := by
  intro P hP
  have key : ∀ (d y : Nat) (f1 : Nat → Int64), y + d = 8 → (∀ x y', x < 8 → y' < 8 → f1 (8 * x + y') = if x = a ∧ y' < y then (if z < 0 then -rw0 y' else rw0 y') else f (8 * x + y')) → P f1 (nI y) := by
    intro d
    induction d with
    | zero =>
      intro y f1 hy h1
      refine hP f1 (nI y) ⟨fun _ => h f1 (fun x y' hx hy' => ?_), fun w => ?_⟩
      · rw [h1 x y' hx hy']; exact pz_ite (by omega)
      · rw [show (8 : Int32) = nI 8 from rfl, pz_le (by omega) (by omega)] at w; omega
    | succ d ih =>
      intro y f1 hy h1
      have st : ∀ w, w = vp_updL f1 (8 * a + y) (if z < 0 then -rw0 y else rw0 y) → P w (nI y + 1) := by
        intro w hw
        rw [nI_1]
        refine ih (y + 1) w (by omega) (fun x y' hx hy' => ?_)
        rw [hw, pz_updL]
        by_cases e3 : x = a ∧ y' = y
        · rw [e3.1, e3.2, if_pos rfl]; exact (if_pos ⟨rfl, by omega⟩).symm
        · rw [if_neg (by omega), h1 x y' hx hy']; exact pz_ite (by omega)
      refine hP f1 (nI y) ⟨fun w => ?_, fun _ => ⟨pz_in ha (by omega), ?_⟩⟩
      · rw [show (8 : Int32) = nI 8 from rfl, pz_le (by omega) (by omega)] at w; omega
      rw [pz_c (show a < 1000 by omega), hr, pr_cmpge hz, pz_8', pz_c (show y < 1000 by omega)]
      refine ⟨fun q => ⟨pz_in (by omega) (by omega), pz_in (by omega) (by omega), fun w hw v hv => ?_⟩, fun q => ⟨pz_in (by omega) (by omega), pz_in (by omega) (by omega), fun w hw v hv => ?_⟩⟩
      · rw [hv]; refine st w ?_
        rw [hw, pz_c (by omega), if_neg (by omega)]
      · rw [hv]; refine st w ?_
        rw [hw, pz_c (by omega), if_pos (by omega)]
  exact key 8 0 f (by omega) (fun x y hx hy => (if_neg (by omega)).symm)
/-- insert: the stairs and the row become stairs of what they generate -/
theorem mi_insert {r : Nat} {p T : Nat → Nat} {Z0 : Nat → Nat → Int} {c e m k : Int32} {g : Nat → Int32} {post : (Nat → Int64) → (Nat → Int32) → (Nat → Int64) → Prop} {f rw0 : Nat → Int64} (h0 : pr_Start 8 r p T Z0) (hR : mi_Rep r p f g Z0) (hw : ∀ y, y < 8 → rw0 y = Int64.ofInt (Z0 r y))
    (hp : ∀ f' g' rw' r' p' Z', mi_Rep r' p' f' g' Z' → hn_Base 8 r' p' Z' → (r' = r ∧ (∀ j, j < 8 → Z' r j = 0) ∨ r' = r + 1) → hn_Same 8 (r + 1) Z0 Z' → post f' g' rw') : wp_MD_insert c e m k f g rw0 post := by
  have hr := h0.2.1
  intro P hP
  have key : ∀ (d j s : Nat) (f1 rw1 : Nat → Int64) (Z : Nat → Nat → Int), j + d = 8 → s ≤ r → (∀ l, l < s → p l < j) → (∀ l, s ≤ l → l < r → j ≤ p l) → mi_Rep r p f1 g Z → (∀ y, y < 8 → rw1 y = Int64.ofInt (Z r y)) → mi_Inv r p T Z0 s j Z → P f1 rw1 (nI j) := by
    intro d
    induction d with
    | zero =>
      intro j s f1 rw1 Z hj hs hlo hhi hR1 hw1 hI
      refine hP f1 rw1 (nI j) ⟨fun _ => ?_, fun w => ?_⟩
      · exact hp f1 g rw1 r p Z hR1 hI.1 (Or.inl ⟨rfl, fun j hj => hI.2.2.2.1 j (by omega)⟩) (hI.2.2.1 (r + 1) (by omega))
      · rw [show (8 : Int32) = nI 8 from rfl, pz_le (by omega) (by omega)] at w; omega
    | succ d ih =>
      intro j s f1 rw1 Z hj hs hlo hhi hR1 hw1 hI
      have hj8 : j < 8 := by omega
      have hE : pr_Ech 8 r p Z := ⟨hI.1.1, hI.1.2.1, hI.1.2.2.1, hI.1.2.2.2.1⟩
      have hVb := mi_Vb s
      have hsm : pr_sm (Z r j) := by have := hI.2.2.2.2.1 j hj8; unfold pr_sm; omega
      refine hP f1 rw1 (nI j) ⟨fun w => ?_, fun _ => ⟨pz_in hj8 (by omega), ?_⟩⟩
      · rw [show (8 : Int32) = nI 8 from rfl, pz_le (by omega) (by omega)] at w; omega
      rw [pz_c (by omega), hw1 j hj8, pr_cmp0 hsm]
      refine ⟨fun hne => ⟨pz_in hj8 (by omega), fun hb => ?_, fun hb => ?_⟩, fun hz => ?_⟩
      · -- Euclid
        obtain ⟨x, hx, ex⟩ := (hR1.2 j hj8).mp hb
        have hxs : x = s := by
          rcases Nat.lt_trichotomy x s with z | z | z
          · have := hlo x z; omega
          · exact z
          · have a := hE.2.1 s x z hx; have b := hhi s (Nat.le_refl _) (by omega); omega
        subst hxs
        subst ex
        refine mi_clear (by omega) hx hE hR1 hw1 hne ?_ (fun f2 rw2 Z1 hR2 hw2 hC => ?_)
        · unfold pr_Phi
          rw [hI.2.1 x (Nat.le_refl _) hx]
          have a := pr_piv h0 hx
          have b := hI.2.2.2.2.1 (p x) hj8
          have x1 : (Z0 x (p x)).natAbs * (Z r (p x)).natAbs ≤ 750 * 68343750000000 := Nat.mul_le_mul a.2 (by omega)
          have x2 : (Z r (p x)).natAbs * (Z0 x (p x)).natAbs ≤ 68343750000000 * 750 := Nat.mul_le_mul (by omega) a.2
          omega
        · obtain ⟨s1, s2, s3, s4, s5⟩ := mi_stage h0 hx hI hC
          refine mi_settle s1 s2 s3 s4 hR2 (fun f3 Z2 a1 a2 a3 a4 a5 a6 v hv => ?_)
          rw [hv, nI_1]
          refine ih (p x + 1) (x + 1) f3 rw2 Z2 (by omega) (by omega) (fun l hl => ?_) (fun l hl hlr => ?_) a1 (fun y hy => by rw [a3 r (Nat.le_refl _)]; exact hw2 y hy) (s5 Z2 a2 a3 a4 a5)
          · rcases Nat.eq_or_lt_of_le (Nat.le_of_lt_succ hl) with z | z
            · rw [z]; omega
            · have := hlo l z; omega
          · have := hE.2.1 x l (by omega) hlr; omega
      · -- a new stair
        have hno : ∀ x, x < r → p x ≠ j := fun x hx ex => absurd hb ((hR1.2 j hj8).mpr ⟨x, hx, ex⟩)
        refine ⟨pz_in hj8 (by omega), fun g2 hg2 => ?_⟩
        have hhi' : ∀ l, s ≤ l → l < r → j < p l := fun l a b => by have x := hhi l a b; have y := hno l b; omega
        obtain ⟨s1, s2, ⟨R, s3⟩, s4, s5⟩ := mi_place h0 hs hI hj8 hlo hhi' hne (Z1 := if Z r j < 0 then pr_zn (pr_mv Z r s) s else pr_mv Z r s) rfl
        refine mi_write hj8 hsm (hw1 j hj8) (fun f2 hf2 => ?_)
        refine mi_settle s1 s2 s3 s4 ⟨fun k2 c2 hk2 hc2 => ?_, fun j2 hj2 => ?_⟩ (fun f3 Z2 a1 a2 a3 a4 a5 a6 => hp f3 g2 rw1 (r + 1) _ Z2 a1 a2 (Or.inr rfl) (hn_Same_tr (s5 (r + 1) (by omega)) (a4 (r + 1) (Nat.le_refl _))))
        · rw [hf2 _ c2 (s1.1 k2 hk2) hc2]
          rcases Nat.lt_trichotomy k2 s with z | z | z
          · have e1 : pr_np p r s j k2 = p k2 := by unfold pr_np; rw [if_neg (by omega), if_neg (by omega)]
            have e2 : pr_mv Z r s k2 c2 = Z k2 c2 := by unfold pr_mv; rw [if_neg (by omega), if_neg (by omega)]
            rw [e1, if_neg (hno k2 (by omega)), hR1.1 k2 c2 (by omega) hc2]
            split
            · unfold pr_zn; rw [if_neg (by omega), e2]
            · rw [e2]
          · have e1 : pr_np p r s j k2 = j := by unfold pr_np; rw [if_pos z]
            have e2 : pr_mv Z r s s c2 = Z r c2 := by unfold pr_mv; rw [if_pos rfl]
            rw [e1, if_pos rfl, z, hw1 c2 hc2]
            split
            · unfold pr_zn; rw [if_pos rfl, e2, Int64.ofInt_neg]
            · rw [e2]
          · have e1 : pr_np p r s j k2 = p (k2 - 1) := by unfold pr_np; rw [if_neg (by omega), if_pos ⟨z, by omega⟩]
            have e2 : pr_mv Z r s k2 c2 = Z (k2 - 1) c2 := by unfold pr_mv; rw [if_neg (by omega), if_pos ⟨z, by omega⟩]
            rw [e1, if_neg (hno (k2 - 1) (by omega)), hR1.1 (k2 - 1) c2 (by omega) hc2]
            split
            · unfold pr_zn; rw [if_neg (by omega), e2]
            · rw [e2]
        · have hg3 : g2 j2 = if j2 = j then 1 else g j2 := by rw [hg2]; rfl
          rw [hg3]
          by_cases e1 : j2 = j
          · rw [if_pos e1]
            exact ⟨fun _ => ⟨s, by omega, by unfold pr_np; rw [if_pos rfl]; exact e1.symm⟩, fun _ => by decide⟩
          · rw [if_neg e1, hR1.2 j2 hj2]
            constructor
            · rintro ⟨x, hx, ex⟩
              rcases Nat.lt_or_ge x s with z | z
              · exact ⟨x, by omega, by unfold pr_np; rw [if_neg (by omega), if_neg (by omega)]; exact ex⟩
              · exact ⟨x + 1, by omega, by unfold pr_np; rw [if_neg (by omega), if_pos ⟨by omega, by omega⟩]; exact ex⟩
            · rintro ⟨x, hx, ex⟩
              unfold pr_np at ex
              split at ex
              · exact absurd ex.symm e1
              · split at ex
                · exact ⟨x - 1, by omega, ex⟩
                · exact ⟨x, by omega, ex⟩
      · -- nothing there
        intro v hv
        rw [hv, nI_1]
        by_cases hb : s < r ∧ p s = j
        · obtain ⟨hsr, ej⟩ := hb
          subst ej
          refine ih (p s + 1) (s + 1) f1 rw1 Z (by omega) (by omega) (fun l hl => ?_) (fun l hl hlr => ?_) hR1 hw1 (mi_skipB h0 hsr hI hz)
          · rcases Nat.eq_or_lt_of_le (Nat.le_of_lt_succ hl) with z | z
            · rw [z]; omega
            · have := hlo l z; omega
          · have := hE.2.1 s l (by omega) hlr; omega
        · refine ih (j + 1) s f1 rw1 Z (by omega) hs (fun l hl => by have := hlo l hl; omega) (fun l hl hlr => ?_) hR1 hw1 (mi_skip hI hz)
          have a := hhi l hl hlr
          rcases Nat.eq_or_lt_of_le a with z | z
          · exfalso
            rcases Nat.eq_or_lt_of_le hl with y | y
            · exact hb ⟨by omega, by rw [y]; exact z.symm⟩
            · have b := hE.2.1 s l y hlr; have c := hhi s (Nat.le_refl _) (by omega); omega
          · exact z
  exact key 8 0 0 f rw0 Z0 (by omega) (by omega) (fun l hl => by omega) (fun l _ _ => by omega) hR hw (mi_Inv0 h0)
