/-- row by row, at the base row k -/
def pr_ki (Z : Nat → Nat → Int) (p : Nat → Nat) (b t k i0 : Nat) : Nat → Nat → Int := fun i c => if i < i0 ∧ (i < k ∨ (b ≤ i ∧ i ≤ t)) then Z i c - (Z i (p k) / Z k (p k)) * Z k c else Z i c
theorem pr_ki_end {Z : Nat → Nat → Int} {p : Nat → Nat} {b t k : Nat} (hk : k < b) (hbt : b ≤ t + 1) : pr_ki Z p b t k (t + 1) = pr_ks Z p b t k := by
  funext i c
  unfold pr_ki pr_ks
  by_cases e : i < k ∨ (b ≤ i ∧ i ≤ t)
  · rw [if_pos ⟨by omega, e⟩, if_pos e]
  · rw [if_neg (fun q => e q.2), if_neg e]
theorem pr_keep {h w n : Nat} {xi : Int32} {f : Nat → Int64} {Z : Nat → Nat → Int} {g : Nat → Int32} {p : Nat → Nat} {b t : Nat} {post : (Nat → Int64) → Prop} (hn : w + h = n) (hn8 : n ≤ 8) (hb : b ≤ 4) (ht : t < 4) (hbt : b ≤ t + 1) (hR : pr_Rep n f Z)
    (hg : ∀ k, k < b → g k = nI (p k)) (hpn : ∀ k, k < b → p k < n) (hpos : ∀ k, k < b → 0 < (pr_kS Z p b t k) k (p k)) (hsm : ∀ k, k < b → ∀ i, i ≤ t → pr_sm ((pr_kS Z p b t k) i (p k))) (hp : ∀ f', pr_Rep n f' (pr_kS Z p b t b) → post f') :
    wp_RD_keepSmall (nI h) (nI w) xi f g (nI b) (nI t) post := by
  intro P hP
  have key : ∀ (m k : Nat) (f1 : Nat → Int64), k + m = b → pr_Rep n f1 (pr_kS Z p b t k) → P f1 (nI k) := by
    intro m
    induction m with
    | zero =>
      intro k f1 hk hR1
      have : k = b := by omega
      subst this
      refine hP f1 (nI k) ⟨fun _ => hp f1 hR1, fun q => ?_⟩
      rw [pz_le (by omega) (by omega)] at q; omega
    | succ m ih =>
      intro k f1 hk hR1
      have hkb : k < b := by omega
      refine hP f1 (nI k) ⟨fun q => ?_, fun _ => ⟨pz_in (by omega) (by omega), ?_⟩⟩
      · rw [pz_le (by omega) (by omega)] at q; omega
      intro v hv
      rw [pz_c (by omega), hg k hkb] at hv
      rw [hv]
      have hpk := hpn k hkb
      refine pz_cell (by omega) (by omega) ?_
      rw [hR1 k (p k) (by omega) hpk]
      have hs1 : pr_sm ((pr_kS Z p b t k) k (p k)) := hsm k hkb k (by omega)
      have hp1 := hpos k hkb
      generalize hY : pr_kS Z p b t k = Y at *
      intro P' hP'
      have inner : ∀ (m' i : Nat) (f2 : Nat → Int64), i + m' = t + 1 → pr_Rep n f2 (pr_ki Y p b t k i) → P' f2 (nI i) := by
        intro m'
        induction m' with
        | zero =>
          intro i f2 hi hR2
          have hit : i = t + 1 := by omega
          refine hP' f2 (nI i) ⟨fun _ => ?_, fun q => ?_⟩
          · intro v6 hv6
            rw [hv6, nI_1]
            refine ih (k + 1) f2 (by omega) ?_
            show pr_Rep n f2 (pr_ks (pr_kS Z p b t k) p b t k)
            rw [hY, ← pr_ki_end hkb hbt, ← hit]
            exact hR2
          · rw [pz_lt (by omega) (by omega)] at q; omega
        | succ m' ih' =>
          intro i f2 hi hR2
          have hi4 : i < 4 := by omega
          have nxt : ∀ f3, pr_Rep n f3 (pr_ki Y p b t k (i + 1)) → wp_RD_keepSmall_72 (nI h) (nI w) xi g (nI b) (nI t) (nI k) (nI (p k)) (Int64.ofInt (Y k (p k))) post P P' f3 (nI i) := by
            intro f3 hR3 v8 hv8
            rw [hv8, nI_1]
            exact ih' (i + 1) f3 (by omega) hR3
          have keepR : ¬ (i < k ∨ (b ≤ i ∧ i ≤ t)) → pr_Rep n f2 (pr_ki Y p b t k (i + 1)) := by
            intro hno
            have e : pr_ki Y p b t k (i + 1) = pr_ki Y p b t k i := by
              funext i' c
              unfold pr_ki
              by_cases e1 : i' = i
              · subst e1; rw [if_neg (fun q => hno q.2), if_neg (fun q => hno q.2)]
              · by_cases e2 : i' < i ∧ (i' < k ∨ (b ≤ i' ∧ i' ≤ t))
                · rw [if_pos e2, if_pos ⟨by omega, e2.2⟩]
                · rw [if_neg e2, if_neg (fun q => e2 ⟨by omega, q.2⟩)]
            rw [e]; exact hR2
          have doR : (i < k ∨ (b ≤ i ∧ i ≤ t)) → wp_RD_keepSmall_52 (nI h) (nI w) xi g (nI b) (nI t) (nI k) (nI (p k)) (Int64.ofInt (Y k (p k))) post P P' f2 (nI i) := by
            intro hyes
            unfold wp_RD_keepSmall_52
            refine pz_cell hi4 (by omega) ?_
            have ei : pr_ki Y p b t k i i = Y i := by funext c; simp [pr_ki]
            have ek : pr_ki Y p b t k i k = Y k := by funext c; unfold pr_ki; rw [if_neg (by omega)]
            rw [hR2 i (p k) hi4 hpk, ei]
            refine pr_floor (by rw [← hY]; exact hsm k hkb i (by omega)) hs1 hp1 ?_
            refine pz_takeAway hn hn8 hi4 (by omega) (by omega) (fun f3 hf3 => nxt f3 ?_)
            have hR3 := pr_Rep_t hn8 hi4 (by omega) hR2 rfl hf3
            have e : pr_zt (pr_ki Y p b t k i) i k (Y i (p k) / Y k (p k)) = pr_ki Y p b t k (i + 1) := by
              funext i' c
              unfold pr_zt
              by_cases e1 : i' = i
              · subst e1
                rw [if_pos rfl, ei, ek]
                unfold pr_ki
                rw [if_pos ⟨by omega, hyes⟩]
              · rw [if_neg e1]
                unfold pr_ki
                by_cases e2 : i' < i ∧ (i' < k ∨ (b ≤ i' ∧ i' ≤ t))
                · rw [if_pos e2, if_pos ⟨by omega, e2.2⟩]
                · rw [if_neg e2, if_neg (fun q => e2 ⟨by omega, q.2⟩)]
            rw [e] at hR3
            exact hR3
          refine hP' f2 (nI i) ⟨fun q => ?_, fun _ => ⟨fun q => ?_, fun _ => ⟨fun q => ?_, fun q => ⟨fun q2 => ?_, fun q2 => ?_⟩⟩⟩⟩
          · rw [pz_lt (by omega) (by omega)] at q; omega
          · rw [pr_cmple hs1] at q; omega
          · rw [pz_lt (by omega) (by omega)] at q; exact doR (Or.inl q)
          · rw [pz_lt (by omega) (by omega)] at q q2
            exact nxt f2 (keepR (by omega))
          · rw [pz_lt (by omega) (by omega)] at q q2
            exact doR (Or.inr (by omega))
      refine inner (t + 1) 0 f1 (by omega) ?_
      have e0 : pr_ki Y p b t k 0 = Y := by funext i c; simp [pr_ki]
      rw [e0]; exact hR1
  exact key b 0 f (by omega) hR
