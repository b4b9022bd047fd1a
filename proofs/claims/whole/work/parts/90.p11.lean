/-! takeIn: one row more. -/
theorem pr_Dz {Z : Nat → Nat → Int} {t a b c d : Nat} (ht : t < 4) (h : Z t a = 0 ∧ Z t b = 0 ∧ Z t c = 0 ∧ Z t d = 0) : pr_D Z a b c d = 0 := by
  obtain ⟨h1, h2, h3, h4⟩ := h
  rcases (show t = 0 ∨ t = 1 ∨ t = 2 ∨ t = 3 by omega) with rfl | rfl | rfl | rfl <;> simp [pr_D, hn_d4, hn_d3, hn_d2, h1, h2, h3, h4]
/-- the rows are independent: some determinant isn't 0; what lies behind the columns in use is 0 -/
def pr_Free (n t : Nat) (Z : Nat → Nat → Int) : Prop := (∀ i j, i ≤ t → n ≤ j → j < 8 → Z i j = 0) ∧ ∃ a b c d, a < 8 ∧ b < 8 ∧ c < 8 ∧ d < 8 ∧ pr_D Z a b c d ≠ 0
theorem pr_free {n t : Nat} {Z0 Z : Nat → Nat → Int} (ht : t < 4) (h : pr_Free n t Z0) (hS : hn_Same 8 (t + 1) Z0 Z) (hD : pr_Det Z0 Z) (hz : ∀ j, j < n → Z t j = 0) : False := by
  obtain ⟨h1, a, b, c, d, ha, hb, hc, hd, hne⟩ := h
  have hall : ∀ j, j < 8 → Z t j = 0 := by
    intro j hj
    rcases Nat.lt_or_ge j n with q | q
    · exact hz j q
    · obtain ⟨e, he⟩ := hS.1 t (by omega)
      rw [he j hj]
      exact hn_sum_zero (fun i hi => by rw [h1 i j (by omega) q hj, Int.mul_zero])
  have e1 := hD a b c d
  rw [pr_Dz ht ⟨hall a ha, hall b hb, hall c hc, hall d hd⟩] at e1
  apply hne
  have : (0 : Int).natAbs = 0 := rfl
  omega
theorem pr_takeIn {h w n : Nat} {xi : Int32} {f : Nat → Int64} {Z0 : Nat → Nat → Int} {g : Nat → Int32} {p T : Nat → Nat} {t : Nat} {post : (Nat → Int64) → (Nat → Int32) → Prop} (hn : w + h = n) (h0 : pr_Start n t p T Z0) (hF : pr_Free n t Z0) (hR : pr_Rep n f Z0) (hg : ∀ k, k < t → g k = nI (p k))
    (hp : ∀ f' g' p' Z', pr_Rep n f' Z' → (∀ k, k < t + 1 → g' k = nI (p' k)) → hn_Base n (t + 1) p' Z' → (∀ i, t < i → Z' i = Z0 i) → (∀ k, t < k → hn_Same 8 k Z0 Z') → pr_Det Z0 Z' → post f' g') : wp_RD_takeIn (nI h) (nI w) xi f g (nI t) post := by
  have hn8 := h0.1
  have ht3 := h0.2.1
  intro P hP
  have key : ∀ (m c s : Nat) (f1 : Nat → Int64) (Z : Nat → Nat → Int), c + m = n → s ≤ t → (∀ l, l < s → p l < c) → (∀ l, s ≤ l → l < t → c ≤ p l) → pr_Rep n f1 Z → pr_Inv n t p T Z0 s c Z → P f1 (nI s) (nI c) := by
    intro m
    induction m with
    | zero =>
      intro c s f1 Z hc hs hlo hhi hR1 hI
      exfalso
      have hcn : c = n := by omega
      subst hcn
      exact pr_free (by omega) hF (hI.2.2.2.1 (t + 1) (by omega)) hI.2.2.2.2.1 hI.2.2.2.2.2.1
    | succ m ih =>
      intro c s f1 Z hc hs hlo hhi hR1 hI
      have hcn : c < n := by omega
      have hsm : pr_sm (Z t c) := by
        obtain ⟨V, v1, v2⟩ := hI.2.2.2.2.2.2.1
        have := v1 c hcn
        have hT := pr_T h0 s hs
        have : V * 1 ≤ V * T s := Nat.mul_le_mul_left _ hT.1
        unfold pr_sm; omega
      -- on with the next column
      have nxt : ∀ (s' : Nat) (f2 : Nat → Int64) (Z2 : Nat → Nat → Int), s' ≤ t → (∀ l, l < s' → p l < c + 1) → (∀ l, s' ≤ l → l < t → c + 1 ≤ p l) → pr_Rep n f2 Z2 → pr_Inv n t p T Z0 s' (c + 1) Z2 → wp_RD_takeIn_106 (nI h) (nI w) xi g (nI t) post P f2 (nI s') (nI c) := by
        intro s' f2 Z2 a1 a2 a3 a4 a5 v hv
        rw [hv, nI_1]
        exact ih (c + 1) s' f2 Z2 (by omega) a1 a2 a3 a4 a5
      -- no base row begins here
      have no : (∀ l, s ≤ l → l < t → c < p l) → wp_RD_takeIn_37 (nI h) (nI w) xi g (nI t) post P f1 (nI s) (nI c) 0 := by
        intro hhi2
        have at71 : wp_RD_takeIn_71 (nI h) (nI w) xi g (nI t) post P f1 (nI s) (nI c) 0 := by
          refine pz_cell (by omega) (by omega) ?_
          rw [hR1 t c (by omega) hcn, pr_cmp0 hsm]
          refine ⟨fun z => ⟨fun _ => nxt s f1 Z hs (fun l hl => by have := hlo l hl; omega) (fun l a1 a2 => hhi2 l a1 a2) hR1 (pr_skip hI z), fun q => absurd rfl q⟩, fun z => ?_⟩
          refine pr_move hn hn8 (by omega) hs hcn hR1 hsm (fun f2 g2 hg2 hR2 => ?_)
          obtain ⟨b1, b2, b3, b4, b5, b6⟩ := pr_place h0 hs hI hcn hlo hhi2 z rfl
          have hg3 : ∀ k, k < t + 1 → g2 k = nI (pr_np p t s c k) := by
            intro k hk
            rw [hg2 k]
            unfold pr_np pr_mg
            by_cases e : k = s
            · rw [if_pos e, if_pos e]
            · rw [if_neg e, if_neg e]
              by_cases e2 : s < k ∧ k ≤ t
              · rw [if_pos e2, if_pos e2, hg (k - 1) (by omega)]
              · rw [if_neg e2, if_neg e2, hg k (by omega)]
          rw [nI_1]
          exact pr_keep hn hn8 (by omega) (by omega) (Nat.le_refl _) hR2 hg3 b1.1 (fun k hk => by
            rw [pr_kS_stay b1 k (by omega) k _ hk (Nat.le_refl _)]; exact b1.2.2.2 k hk) (fun k hk i hi => b2 k hk i hi) (fun f3 hR3 => hp f3 g2 _ _ hR3 hg3 b3 b4 b5 b6)
        refine pz_cell (by omega) (by omega) ?_
        rw [hR1 t c (by omega) hcn, pr_cmp0 hsm]
        exact ⟨fun _ => at71, fun _ => ⟨fun _ => at71, fun q => absurd rfl q⟩⟩
      refine hP f1 (nI s) (nI c) ⟨fun q => ?_, fun _ => ⟨fun q => ?_, fun q => ⟨pz_in (by rw [pz_le (by omega) (by omega)] at q; omega) (by omega), ?_⟩⟩⟩
      · rw [nI_add, pz_le (by omega) (by omega)] at q; omega
      · rw [pz_le (by omega) (by omega)] at q
        exact no (fun l a1 a2 => by omega)
      · rw [pz_le (by omega) (by omega)] at q
        have hst : s < t := by omega
        rw [pz_c (by omega), hg s hst]
        have hps := h0.2.2.1.1 s hst
        refine ⟨fun e => no (fun l a1 a2 => ?_), fun e => ?_⟩
        · rw [pz_eq (by omega) (by omega)] at e
          have h1 := hhi s (Nat.le_refl _) hst
          rcases Nat.eq_or_lt_of_le a1 with e9 | e9
          · subst e9; omega
          · have := h0.2.2.1.2.1 s l e9 a2; omega
        · rw [pz_eq (by omega) (by omega)] at e
          -- a base row begins here
          have hI' : pr_Inv n t p T Z0 s (p s) Z := by rw [e]; exact hI
          have hlo' : ∀ l, l < s + 1 → p l < c + 1 := fun l hl => by
            rcases Nat.eq_or_lt_of_le (Nat.le_of_lt_succ hl) with e9 | e9
            · rw [e9, e]; omega
            · have := hlo l e9; omega
          have hhi' : ∀ l, s + 1 ≤ l → l < t → c + 1 ≤ p l := fun l a1 a2 => by
            have := h0.2.2.1.2.1 s l (by omega) a2; omega
          have at98 : ∀ f2 Z2, pr_Rep n f2 Z2 → pr_Inv n t p T Z0 (s + 1) (c + 1) Z2 → wp_RD_takeIn_98 (nI h) (nI w) xi g (nI t) post P f2 (nI s) (nI c) 1 := by
            intro f2 Z2 hR2 hI2
            refine ⟨fun q => absurd q (by decide), fun _ v hv => ?_⟩
            rw [hv, nI_1]
            exact nxt (s + 1) f2 Z2 (by omega) hlo' hhi' hR2 hI2
          refine pz_cell (by omega) (by omega) ?_
          rw [hR1 t c (by omega) hcn, pr_cmp0 hsm]
          refine ⟨fun z => ?_, fun z => ⟨fun q => absurd q (by decide), fun _ => ?_⟩⟩
          · refine pz_cell (by omega) (by omega) ?_
            rw [hR1 t c (by omega) hcn, pr_cmp0 hsm]
            refine ⟨fun _ => at98 f1 Z hR1 ?_, fun q => absurd z q⟩
            have := pr_skipB h0 hst hI' (by rw [e]; exact z)
            rw [e] at this; exact this
          · have hpv := pr_piv h0 hst
            have hZs : Z s = Z0 s := hI.2.1 s (Nat.le_refl _) hst
            have hx := (hI.2.2.2.2.2.2.2.1 s (Nat.le_refl _) hst).2
            rw [e] at hx
            have hpos := hI.1.2.2.2.1 s hst
            rw [e] at hpos
            have hsa : (Z s c).natAbs ≤ 750 := by rw [hZs, ← e]; exact hpv.2
            refine pr_clear (N := 8) hn hn8 hn8 (by omega) (by omega) (by omega) hcn hR1 (by omega) z (by omega) ?_ (fun f2 Z2 hR2 hC2 => ?_)
            · unfold pr_Phi
              have b1 : (Z s c).natAbs * (Z t c).natAbs ≤ 750 * 750 := Nat.mul_le_mul hsa hx
              have b2 : (Z t c).natAbs * (Z s c).natAbs ≤ 750 * 750 := Nat.mul_le_mul hx hsa
              omega
            · rw [← e] at hC2 z
              obtain ⟨b1, b2, b3⟩ := pr_stage h0 hst hI' hC2 z
              refine pr_keep hn hn8 (by omega) (by omega) (by omega) hR2 hg b1.1 (fun k hk => by
                rw [pr_kS_stay b1 k (by omega) k _ hk (Nat.le_refl _)]; exact b1.2.2.2 k hk) (fun k hk i hi => b2 k hk i hi) (fun f3 hR3 => at98 f3 _ hR3 ?_)
              rw [e] at b3; exact b3
  exact key n 0 0 f Z0 (by omega) (by omega) (fun l hl => by omega) (fun l _ _ => by omega) hR (pr_Inv0 h0)
