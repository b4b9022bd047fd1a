/-! moveAhead: the newest row to its place -/
def pr_mv (Z : Nat → Nat → Int) (t u : Nat) : Nat → Nat → Int := fun i c => if i = u then Z t c else if u < i ∧ i ≤ t then Z (i - 1) c else Z i c
def pr_mg (g : Nat → Int32) (t u : Nat) : Nat → Int32 := fun i => if u < i ∧ i ≤ t then g (i - 1) else g i
theorem pr_mv_t {Z : Nat → Nat → Int} {t : Nat} : pr_mv Z t t = Z := by
  funext i c
  unfold pr_mv
  by_cases e : i = t
  · rw [if_pos e, e]
  · rw [if_neg e, if_neg (by omega)]
theorem pr_mv_s {Z : Nat → Nat → Int} {t u : Nat} (h : u < t) : pr_zs (pr_mv Z t (u + 1)) (u + 1) u = pr_mv Z t u := by
  funext i c
  unfold pr_zs pr_mv
  by_cases e : i = u
  · subst e; simp
  · by_cases e2 : i = u + 1
    · subst e2; simp [show u + 1 ≤ t by omega]; intro q; omega
    · rw [if_neg e2, if_neg e, if_neg e2, if_neg e]
      by_cases e3 : u + 1 < i ∧ i ≤ t
      · rw [if_pos e3, if_pos (by omega)]
      · rw [if_neg e3, if_neg (by omega)]
theorem pr_Same_mv {n k : Nat} (Z : Nat → Nat → Int) {t u : Nat} (hu : u ≤ t) (ht : t < k) : hn_Same n k Z (pr_mv Z t u) ∧ (t < 4 → pr_Det Z (pr_mv Z t u)) := by
  have key : ∀ m u, u + m = t → hn_Same n k Z (pr_mv Z t u) ∧ (t < 4 → pr_Det Z (pr_mv Z t u)) := by
    intro m
    induction m with
    | zero => intro u hu; rw [show u = t by omega, pr_mv_t]; exact ⟨hn_Same_rf, fun _ => pr_Det_rf⟩
    | succ m ih =>
      intro u hu
      obtain ⟨a, b⟩ := ih (u + 1) (by omega)
      rw [← pr_mv_s (by omega : u < t)]
      exact ⟨hn_Same_tr a (pr_Same_s _ (by omega) (by omega)), fun h4 => pr_Det_tr (b h4) (pr_Det_s _ (by omega) (by omega) (by omega))⟩
  exact key (t - u) u (by omega)
theorem pr_move {h w n : Nat} {xi : Int32} {f : Nat → Int64} {Z : Nat → Nat → Int} {g : Nat → Int32} {t u col : Nat} {post : (Nat → Int64) → (Nat → Int32) → Prop} (hn : w + h = n) (hn8 : n ≤ 8) (ht : t < 4) (hu : u ≤ t) (hc : col < n) (hR : pr_Rep n f Z) (hsm : pr_sm (Z t col))
    (hp : ∀ f' g', (∀ i, g' i = if i = u then nI col else pr_mg g t u i) → pr_Rep n f' (if Z t col < 0 then pr_zn (pr_mv Z t u) u else pr_mv Z t u) → post f' g') : wp_RD_moveAhead (nI h) (nI w) xi f g (nI t) (nI u) (nI col) post := by
  intro P hP
  have key : ∀ (m v : Nat) (f1 : Nat → Int64) (g1 : Nat → Int32), u + m = v → v ≤ t → pr_Rep n f1 (pr_mv Z t v) → (∀ i, g1 i = pr_mg g t v i) → P f1 g1 (nI v) := by
    intro m
    induction m with
    | zero =>
      intro v f1 g1 hv hvt hR1 hg1
      have : v = u := by omega
      subst this
      refine hP f1 g1 (nI v) ⟨fun _ => ⟨pz_in (by omega) (by omega), ?_⟩, fun q => absurd ((pz_le (by omega) (by omega)).mpr (Nat.le_refl _)) q⟩
      intro w3 hw3
      rw [pz_c (by omega)] at hw3
      have hg3 : ∀ i, w3 i = if i = v then nI col else pr_mg g t v i := by
        intro i
        rw [hw3]
        unfold upd
        by_cases e : i = v
        · rw [if_pos e, if_pos e]
        · rw [if_neg e, if_neg e, hg1 i]
      refine pz_cell (by omega) (by omega) ?_
      have ev : pr_mv Z t v v = Z t := by funext c; simp [pr_mv]
      rw [hR1 v col (by omega) hc, ev, pr_cmpge hsm]
      refine ⟨fun q => hp f1 w3 hg3 ?_, fun q => pz_turn hn hn8 (by omega) (fun f2 hf2 => hp f2 w3 hg3 ?_)⟩
      · rw [if_neg (by omega)]; exact hR1
      · rw [if_pos (by omega)]
        exact pr_Rep_n hn8 (by omega) hR1 hf2
    | succ m ih =>
      intro v f1 g1 hv hvt hR1 hg1
      obtain ⟨v', rfl⟩ : ∃ v', v = v' + 1 := ⟨v - 1, by omega⟩
      refine hP f1 g1 (nI (v' + 1)) ⟨fun q => ?_, fun _ => ?_⟩
      · rw [pz_le (by omega) (by omega)] at q; omega
      rw [nI_pred]
      refine pz_swap hn hn8 (by omega) (by omega) (by omega) (fun f2 hf2 => ⟨pz_in (by omega) (by omega), pz_in (by omega) (by omega), ?_⟩)
      intro w3 hw3 v8 hv8
      rw [pz_c (by omega), pz_c (by omega)] at hw3
      rw [hv8, pk_m1]
      have hR2 := pr_Rep_s hn8 (by omega) (by omega) hR1 hf2
      rw [pr_mv_s (by omega)] at hR2
      refine ih v' f2 w3 (by omega) (by omega) hR2 (fun i => ?_)
      rw [hw3]
      unfold upd
      by_cases e : i = v' + 1
      · rw [if_pos e, hg1 v', e]
        unfold pr_mg
        rw [if_neg (by omega), if_pos (by omega)]
        rfl
      · rw [if_neg e, hg1 i]
        unfold pr_mg
        by_cases e2 : v' + 1 < i ∧ i ≤ t
        · rw [if_pos e2, if_pos (by omega)]
        · rw [if_neg e2, if_neg (by omega)]
  refine key (t - u) t f g (by omega) (by omega) (by rw [pr_mv_t]; exact hR) (fun i => ?_)
  unfold pr_mg
  rw [if_neg (by omega)]
