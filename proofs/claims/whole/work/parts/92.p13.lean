/-! reduce, and open ahead of it. -/
theorem pr_gotF {n w h t : Nat} {M : Nat → Nat → Int} {p : Nat → Nat} {Z : Nat → Nat → Int} (hn : w + h = n) (hh : h ≤ 4) (ht : t < h) (hM : pr_Mat w M) (hG : pr_Got n w t M p Z) : pr_Free n t Z := by
  have hw := hM.1
  refine ⟨fun i j hi hj hj8 => ?_, w, w + 1, w + 2, w + 3, by omega, by omega, by omega, by omega, ?_⟩
  · rcases Nat.eq_or_lt_of_le hi with e | e
    · rw [e, hG.2.1 t (Nat.le_refl _)]
      exact hM.2.2.1 t j (by omega) (by omega) hj8 (by omega)
    · obtain ⟨c, hc⟩ := (hG.2.2.1 t (Nat.le_refl _)).1 i e
      rw [hc j hj8]
      exact hn_sum_zero (fun k hk => by rw [hM.2.2.1 k j (by omega) (by omega) hj8 (by omega), Int.mul_zero])
  · have e1 := hG.2.2.2 w (w + 1) (w + 2) (w + 3)
    rw [pr_unit hM] at e1
    intro e
    rw [e] at e1
    exact absurd e1 (by decide)
theorem pr_reduce {h w n : Nat} {xi : Int32} {f : Nat → Int64} {M : Nat → Nat → Int} {g : Nat → Int32} {post : Int32 → (Nat → Int64) → (Nat → Int32) → Prop} (hn : w + h = n) (hh : h ≤ 4) (hM : pr_Mat w M) (hR : pr_Rep n f M)
    (hp : ∀ f' g' p' Z' im, pr_Rep n f' Z' → (∀ k, k < h → g' k = nI (p' k)) → pr_Got n w h M p' Z' → im ≤ h → (∀ k, k < im → p' k < w) → (∀ k, im ≤ k → k < h → w ≤ p' k) → post (nI im) f' g') : wp_RD_reduce (nI h) (nI w) xi f g post := by
  have hw := hM.1
  have hn8 : n ≤ 8 := by omega
  intro P hP
  -- how many begin ahead
  have cnt : ∀ (f' : Nat → Int64) (g' : Nat → Int32) (p' : Nat → Nat) (Z' : Nat → Nat → Int), pr_Rep n f' Z' → (∀ k, k < h → g' k = nI (p' k)) → pr_Got n w h M p' Z' → wp_RD_reduce_28 (nI h) (nI w) f' g' post 0 0 := by
    intro f' g' p' Z' hR' hg' hG' P' hP'
    have key : ∀ (m u im : Nat), u + m = h → im ≤ u → (∀ k, k < im → p' k < w) → (∀ k, im ≤ k → k < u → w ≤ p' k) → P' (nI im) (nI u) := by
      intro m
      induction m with
      | zero =>
        intro u im hu hi h1 h2
        refine hP' (nI im) (nI u) ⟨fun _ => ?_, fun q => ?_⟩
        · have : u = h := by omega
          subst this
          exact hp f' g' p' Z' im hR' hg' hG' hi h1 h2
        · rw [pz_le (by omega) (by omega)] at q; omega
      | succ m ih =>
        intro u im hu hi h1 h2
        have hb := hG'.1.1 u (by omega)
        refine hP' (nI im) (nI u) ⟨fun q => ?_, fun _ => ⟨pz_in (by omega) (by omega), ?_⟩⟩
        · rw [pz_le (by omega) (by omega)] at q; omega
        rw [pz_c (by omega), hg' u (by omega), pz_le (by omega) (by omega)]
        refine ⟨fun q v hv => ?_, fun q v hv v' hv' => ?_⟩
        · rw [hv, nI_1]
          refine ih (u + 1) im (by omega) (by omega) h1 (fun k a b => ?_)
          rcases Nat.eq_or_lt_of_le (Nat.le_of_lt_succ b) with e | e
          · rw [e]; exact q
          · exact h2 k a e
        · have him : im = u := by
            rcases Nat.eq_or_lt_of_le hi with e | e
            · exact e
            · have a1 := h2 im (Nat.le_refl _) e
              have a2 := hG'.1.2.1 im u e (by omega)
              omega
          rw [hv', hv, nI_1, nI_1]
          refine ih (u + 1) (im + 1) (by omega) (by omega) (fun k hk => ?_) (fun k a b => by omega)
          rcases Nat.eq_or_lt_of_le (Nat.le_of_lt_succ hk) with e | e
          · rw [e, him]; omega
          · exact h1 k e
    exact key h 0 0 (by omega) (by omega) (fun k hk => by omega) (fun k _ hk => by omega)
  have key : ∀ (m t : Nat) (f1 : Nat → Int64) (g1 : Nat → Int32) (p1 : Nat → Nat) (Z1 : Nat → Nat → Int), t + m = h → pr_Rep n f1 Z1 → (∀ k, k < t → g1 k = nI (p1 k)) → pr_Got n w t M p1 Z1 → P f1 g1 (nI t) := by
    intro m
    induction m with
    | zero =>
      intro t f1 g1 p1 Z1 ht hR1 hg1 hG1
      have : t = h := by omega
      subst this
      refine hP f1 g1 (nI t) ⟨fun _ => cnt f1 g1 p1 Z1 hR1 hg1 hG1, fun q => ?_⟩
      rw [pz_le (by omega) (by omega)] at q; omega
    | succ m ih =>
      intro t f1 g1 p1 Z1 ht hR1 hg1 hG1
      refine hP f1 g1 (nI t) ⟨fun q => ?_, fun _ => ?_⟩
      · rw [pz_le (by omega) (by omega)] at q; omega
      obtain ⟨T, hS⟩ := pr_start hn8 (by omega) hM hG1
      refine pr_takeIn hn hS (pr_gotF hn hh (by omega) hM hG1) hR1 hg1 (fun f2 g2 p2 Z2 a1 a2 a3 a4 a5 a6 v hv => ?_)
      rw [hv, nI_1]
      exact ih (t + 1) f2 g2 p2 Z2 (by omega) a1 a2 ⟨a3, fun i hi => (a4 i (by omega)).trans (hG1.2.1 i (by omega)), fun k hk => hn_Same_tr (hG1.2.2.1 k (by omega)) (a5 k (by omega)), pr_Det_tr hG1.2.2.2 a6⟩
  refine key h 0 f g (fun _ => 0) M (by omega) hR (fun k hk => by omega) ⟨⟨fun i hi => by omega, fun i k _ hk => by omega, fun i j hi => by omega, fun i hi => by omega, fun i k _ hk => by omega⟩, fun _ _ => rfl, fun _ _ => hn_Same_rf, pr_Det_rf⟩
theorem pz_mm {k : Nat} (hk : k ≤ 4) {post : Int32 → Prop} (h : post (nI k)) : wp_MA_min (nI k) 4 (fun r => wp_MA_max 0 r post) := by
  have h4 : (4 : Int32) = nI 4 := rfl
  have h0 : (0 : Int32) = nI 0 := rfl
  refine ⟨fun q => ?_, fun _ => ⟨fun _ => h, fun q => ?_⟩⟩
  · rw [h4, pz_lt (by omega) (by omega)] at q; omega
  · rw [h0, pz_lt (by omega) (by omega)] at q
    have : k = 0 := by omega
    rw [this] at h; exact h
/-- open: unit rows behind w columns of 0 -/
theorem pr_open {h w : Nat} {xh xw xi : Int32} {f : Nat → Int64} {post : Int32 → Int32 → (Nat → Int64) → Prop} (hh : h ≤ 4) (hw : w ≤ 4)
    (hp : ∀ f', (∀ i c, i < 4 → c < 8 → f' (8 * i + c) = if i < h ∧ c = w + i then 1 else 0) → post (nI h) (nI w) f') : wp_RD_open xh xw xi f (nI h) (nI w) post := by
  unfold wp_RD_open
  refine pz_mm hh (pz_mm hw ?_)
  intro P hP
  -- all 0
  have ones : ∀ f1, (∀ x, x < 32 → f1 x = 0) → wp_RD_open_49 (nI h) (nI w) xi post f1 0 := by
    intro f1 hf1 P' hP'
    have key : ∀ (m i : Nat) (f2 : Nat → Int64), i + m = h → (∀ i' c, i' < 4 → c < 8 → f2 (8 * i' + c) = if i' < i ∧ c = w + i' then 1 else 0) → P' f2 (nI i) := by
      intro m
      induction m with
      | zero =>
        intro i f2 hi hf2
        have : i = h := by omega
        subst this
        exact hP' f2 (nI i) ⟨fun _ => hp f2 hf2, fun q => absurd ((pz_le (by omega) (by omega)).mpr (Nat.le_refl _)) q⟩
      | succ m ih =>
        intro i f2 hi hf2
        refine hP' f2 (nI i) ⟨fun q => ?_, fun _ => ?_⟩
        · rw [pz_le (by omega) (by omega)] at q; omega
        rw [nI_add]
        refine pz_set (by omega) (by omega) (fun v hv => ?_)
        rw [hv, nI_1]
        refine ih (i + 1) _ (by omega) (fun i' c a b => ?_)
        rw [pz_updL]
        by_cases e : i' = i
        · subst e
          by_cases e2 : c = w + i'
          · rw [if_pos (by omega), if_pos ⟨by omega, e2⟩]
          · rw [if_neg (by omega), hf2 i' c a b, if_neg (by omega), if_neg (by omega)]
        · rw [if_neg (by omega), hf2 i' c a b]
          by_cases e2 : i' < i ∧ c = w + i'
          · rw [if_pos e2, if_pos ⟨by omega, e2.2⟩]
          · rw [if_neg e2, if_neg (fun q => e2 ⟨by omega, q.2⟩)]
    exact key h 0 f1 (by omega) (fun i' c a b => by rw [hf1 _ (by omega), if_neg (by omega)])
  have key : ∀ (m x : Nat) (f1 : Nat → Int64), x + m = 32 → (∀ y, y < x → f1 y = 0) → P f1 (nI x) := by
    intro m
    induction m with
    | zero =>
      intro x f1 hx h1
      have : x = 32 := by omega
      subst this
      exact hP f1 (nI 32) ⟨fun _ => ones f1 h1, fun q => absurd ((pz_le (by omega) (by omega) (a := 32) (b := 32)).mpr (Nat.le_refl _)) q⟩
    | succ m ih =>
      intro x f1 hx h1
      refine hP f1 (nI x) ⟨fun q => ?_, fun _ => ⟨pz_in (by omega) (by omega), fun w2 hw2 v hv => ?_⟩⟩
      · rw [show (32 : Int32) = nI 32 from rfl, pz_le (by omega) (by omega)] at q; omega
      rw [hv, nI_1]
      rw [pz_c (by omega)] at hw2
      refine ih (x + 1) w2 (by omega) (fun y hy => ?_)
      rw [hw2, pz_updL]
      by_cases e : y = x
      · rw [if_pos e]
      · rw [if_neg e]; exact h1 y (by omega)
  exact key 32 0 f (by omega) (fun y hy => by omega)
