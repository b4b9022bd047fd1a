/-! What settle of the class leaves. -/
theorem pz_ite {α : Type} {P Q : Prop} [Decidable P] [Decidable Q] {a b : α} (h : P ↔ Q) : (if P then a else b) = if Q then a else b := by
  by_cases e : P
  · rw [if_pos e, if_pos (h.mp e)]
  · rw [if_neg e, if_neg (fun q => e (h.mpr q))]
theorem pz_sub {a b : Nat} (h : b ≤ a) : nI a - nI b = nI (a - b) := by
  have e : nI a = nI (a - b) + nI b := by rw [nI_add]; congr 1; omega
  rw [e, Int32.add_sub_cancel]
theorem pz_long (v : Int32) : v.toInt64 = Int64.ofInt v.toInt := by
  rw [← Int32.toInt_toInt64, Int64.ofInt_toInt]
/-- the exponents of the first n0 elements, 0 behind them -/
def st_X (n0 : Nat) (ex : Nat → Int32) : Nat → Nat → Int := fun e l => if e < n0 then (ex (4 * e + l)).toInt else 0
def st_T (A : Nat → Nat → Int) : Nat → Nat → Int := fun i j => A j i
def st_ok (n0 : Nat) (ex : Nat → Int32) : Prop := n0 ≤ 4 ∧ ∀ e l, e < n0 → l < 4 → (ex (4 * e + l)).toInt.natAbs ≤ 5
theorem st_ok5 {n0 : Nat} {ex : Nat → Int32} (h : st_ok n0 ex) (e : Nat) {l : Nat} (hl : l < 4) : (st_X n0 ex e l).natAbs ≤ 5 := by
  unfold st_X
  split
  · exact h.2 e l (by assumption) hl
  · decide
/-- H is the base of what is orthogonal to all that is orthogonal to the first n0 rows of A -/
def st_Hull (n0 : Nat) (A : Nat → Nat → Int) (r : Nat) (H : Nat → Nat → Int) : Prop :=
  ∃ rK pK K pH, rK ≤ 4 ∧ hn_Ker 4 n0 (st_T A) rK pK K ∧ hn_Ker 4 rK (st_T K) r pH H
def st_El (n0 : Nat) (ex : Nat → Int32) (h w im : Int32) (f : Nat → Int64) : Prop :=
  ∃ (ρ : Nat) (Z : Nat → Nat → Int) (p : Nat → Nat), h = nI n0 ∧ w = nI 4 ∧ im = nI ρ ∧ ρ ≤ n0 ∧ pr_Rep (4 + n0) f Z ∧ pr_Got (4 + n0) 4 n0 (pr_M 4 (st_X n0 ex)) p Z ∧ (∀ k, k < ρ → p k < 4) ∧ (∀ k, ρ ≤ k → k < n0 → 4 ≤ p k)
def st_Hu (n0 : Nat) (ex : Nat → Int32) (h w im : Int32) (f : Nat → Int64) : Prop :=
  ∃ (w4 ρ : Nat) (Z : Nat → Nat → Int), h = nI 4 ∧ w = nI w4 ∧ im = nI ρ ∧ ρ ≤ 4 ∧ w4 ≤ 4 ∧ pr_Rep (w4 + 4) f Z ∧ st_Hull n0 (st_X n0 ex) (4 - ρ) (fun i j => Z (ρ + i) (w4 + j))
def st_FE (n0 : Nat) (ex : Nat → Int32) (e l : Nat) (f : Nat → Int64) : Prop := ∀ i c, i < 4 → c < 8 → f (8 * i + c) = if (i < e ∨ (i = e ∧ c < l)) ∧ c < 4 then (ex (4 * i + c)).toInt64 else if i < n0 ∧ c = 4 + i then 1 else 0
def st_FL (n0 : Nat) (ex : Nat → Int32) (e l : Nat) (f : Nat → Int64) : Prop := ∀ i c, i < 4 → c < 8 → f (8 * i + c) = if (c < e ∨ (c = e ∧ i < l)) then (ex (4 * c + i)).toInt64 else if i < 4 ∧ c = n0 + i then 1 else 0
theorem st_FE_s {n0 : Nat} {ex : Nat → Int32} {e l : Nat} {f : Nat → Int64} (he : e < n0) (hn : n0 ≤ 4) (hl : l < 4) (h : st_FE n0 ex e l f) : st_FE n0 ex e (l + 1) (vp_updL f (8 * e + l) (ex (4 * e + l)).toInt64) := by
  intro i c hi hc
  rw [pz_updL]
  by_cases e1 : i = e ∧ c = l
  · rw [if_pos (by omega), if_pos (by omega), e1.1, e1.2]
  · rw [if_neg (by omega), h i c hi hc]
    exact pz_ite (by omega)
theorem st_FL_s {n0 : Nat} {ex : Nat → Int32} {e l : Nat} {f : Nat → Int64} (he : e < n0) (hn : n0 ≤ 4) (hl : l < 4) (h : st_FL n0 ex e l f) : st_FL n0 ex e (l + 1) (vp_updL f (8 * l + e) (ex (4 * e + l)).toInt64) := by
  intro i c hi hc
  rw [pz_updL]
  by_cases e1 : i = l ∧ c = e
  · rw [if_pos (by omega), if_pos (by omega), e1.1, e1.2]
  · rw [if_neg (by omega), h i c hi hc]
    exact pz_ite (by omega)
theorem st_FE_n {n0 : Nat} {ex : Nat → Int32} {e : Nat} {f : Nat → Int64} (h : st_FE n0 ex e 4 f) : st_FE n0 ex (e + 1) 0 f := by
  intro i c hi hc
  rw [h i c hi hc]
  exact pz_ite (by omega)
theorem st_FL_n {n0 : Nat} {ex : Nat → Int32} {e : Nat} {f : Nat → Int64} (h : st_FL n0 ex e 4 f) : st_FL n0 ex (e + 1) 0 f := by
  intro i c hi hc
  rw [h i c hi hc]
  exact pz_ite (by omega)
theorem st_FE_R {n0 : Nat} {ex : Nat → Int32} {f : Nat → Int64} (hn : n0 ≤ 4) (h : st_FE n0 ex n0 0 f) : pr_Rep (4 + n0) f (pr_M 4 (st_X n0 ex)) := by
  intro i c hi hc
  rw [h i c hi (by omega)]
  unfold pr_M st_X
  by_cases e1 : c < 4
  · by_cases e2 : i < n0
    · rw [if_pos (by omega), if_pos e1, if_pos e2, pz_long]
    · rw [if_neg (by omega), if_neg (by omega), if_pos e1, if_neg e2]; rfl
  · by_cases e2 : i < n0 ∧ c = 4 + i
    · rw [if_neg (by omega), if_pos e2, if_neg e1, if_pos e2.2]; rfl
    · rw [if_neg (by omega), if_neg e2, if_neg e1, if_neg (by omega)]; rfl
theorem st_FL_R {n0 : Nat} {ex : Nat → Int32} {f : Nat → Int64} (hn : n0 ≤ 4) (h : st_FL n0 ex n0 0 f) : pr_Rep (n0 + 4) f (pr_M n0 (st_T (st_X n0 ex))) := by
  intro i c hi hc
  rw [h i c hi (by omega)]
  unfold pr_M st_T st_X
  by_cases e1 : c < n0
  · rw [if_pos (by omega), if_pos e1, if_pos e1, pz_long]
  · by_cases e2 : c = n0 + i
    · rw [if_neg (by omega), if_pos ⟨hi, e2⟩, if_neg e1, if_pos e2]; rfl
    · rw [if_neg (by omega), if_neg (by omega), if_neg e1, if_neg e2]; rfl
/-- the hull's cells while they are being set -/
def st_FH (k : Nat) (K : Nat → Nat → Int) (e l : Nat) (f : Nat → Int64) : Prop := ∀ i c, i < 4 → c < 8 → f (8 * i + c) = if (c < e ∨ (c = e ∧ i < l)) then Int64.ofInt (K c i) else if i < 4 ∧ c = k + i then 1 else 0
theorem st_FH_s {k : Nat} {K : Nat → Nat → Int} {e l : Nat} {f : Nat → Int64} (he : e < k) (hn : k ≤ 4) (hl : l < 4) (h : st_FH k K e l f) : st_FH k K e (l + 1) (vp_updL f (8 * l + e) (Int64.ofInt (K e l))) := by
  intro i c hi hc
  rw [pz_updL]
  by_cases e1 : i = l ∧ c = e
  · rw [if_pos (by omega), if_pos (by omega), e1.1, e1.2]
  · rw [if_neg (by omega), h i c hi hc]
    exact pz_ite (by omega)
theorem st_FH_n {k : Nat} {K : Nat → Nat → Int} {e : Nat} {f : Nat → Int64} (h : st_FH k K e 4 f) : st_FH k K (e + 1) 0 f := by
  intro i c hi hc
  rw [h i c hi hc]
  exact pz_ite (by omega)
theorem st_FH_R {k : Nat} {K : Nat → Nat → Int} {f : Nat → Int64} (hn : k ≤ 4) (h : st_FH k K k 0 f) : pr_Rep (k + 4) f (pr_M k (st_T K)) := by
  intro i c hi hc
  rw [h i c hi (by omega)]
  unfold pr_M st_T
  by_cases e1 : c < k
  · rw [if_pos (by omega), if_pos e1]
  · by_cases e2 : c = k + i
    · rw [if_neg (by omega), if_pos ⟨hi, e2⟩, if_neg e1, if_pos e2]; rfl
    · rw [if_neg (by omega), if_neg (by omega), if_neg e1, if_neg e2]; rfl
theorem pr_kerM {h w r : Nat} {A K : Nat → Nat → Int} {p : Nat → Nat} (a : hn_Ker h w (pr_M w A) r p K) : hn_Ker h w A r p K :=
  hn_Ker_iff a (fun v => ⟨fun H j hj => by
    have := H j hj
    rw [hn_sum_congr (g := fun i => v i * A i j) (fun i _ => by simp [pr_M, hj])] at this
    exact this, fun H j hj => by
    rw [hn_sum_congr (g := fun i => v i * A i j) (fun i _ => by simp [pr_M, hj])]
    exact H j hj⟩)
set_option maxHeartbeats 1000000 in
theorem st_settle {n0 : Nat} {xs : Int32} {ex : Nat → Int32} {h1 w1 i1 : Int32} {f1 : Nat → Int64} {g1 : Nat → Int32} {h2 w2 i2 : Int32} {f2 : Nat → Int64} {g2 : Nat → Int32} {h3 w3 i3 : Int32} {f3 : Nat → Int64} {g3 : Nat → Int32}
    {post : Int32 → Int32 → Int32 → Int32 → (Nat → Int64) → (Nat → Int32) → Int32 → Int32 → Int32 → (Nat → Int64) → (Nat → Int32) → Int32 → Int32 → Int32 → (Nat → Int64) → (Nat → Int32) → Prop}
    (hok : st_ok n0 ex) (hs : xs ≠ 0 → st_El n0 ex h1 w1 i1 f1 ∧ st_Hu n0 ex h3 w3 i3 f3)
    (hp : ∀ xs' h1' w1' i1' f1' g1' h2' w2' i2' f2' g2' h3' w3' i3' f3' g3', xs' ≠ 0 → st_El n0 ex h1' w1' i1' f1' → st_Hu n0 ex h3' w3' i3' f3' → post xs' h1' w1' i1' f1' g1' h2' w2' i2' f2' g2' h3' w3' i3' f3' g3') :
    wp_SR_settle (nI n0) xs ex h1 w1 i1 f1 g1 h2 w2 i2 f2 g2 h3 w3 i3 f3 g3 post := by
  have hn := hok.1
  refine ⟨fun e0 => ?_, fun e0 => hp _ _ _ _ _ _ _ _ _ _ _ _ _ _ _ _ e0 (hs e0).1 (hs e0).2⟩
  clear hs
  refine pr_open (h := n0) (w := 4) hn (by omega) (fun fE hE => ?_)
  refine pr_open (h := 4) (w := n0) (by omega) hn (fun fL hL => ?_)
  intro P hP
  have fin : ∀ fE fL, st_FE n0 ex n0 0 fE → st_FL n0 ex n0 0 fL → P fE fL (nI n0) := by
    intro fE fL hE hL
    refine hP fE fL (nI n0) ⟨fun _ => ?_, fun q => absurd ((pz_le (by omega) (by omega)).mpr (Nat.le_refl _)) q⟩
    refine pr_reduce (h := n0) (w := 4) (n := 4 + n0) rfl hn (pr_MatA (by omega) (fun i j _ hj => st_ok5 hok i hj)) (st_FE_R hn hE) (fun fE' gE' pE ZE ρ rE gE GE hρ lo hi => ?_)
    have hel : st_El n0 ex (nI n0) (nI 4) (nI ρ) fE' := ⟨ρ, ZE, pE, rfl, rfl, rfl, hρ, rE, GE, lo, hi⟩
    have hML : pr_Mat n0 (pr_M n0 (st_T (st_X n0 ex))) := pr_MatA hn (fun i j hi hj => st_ok5 hok j hi)
    refine pr_reduce (h := 4) (w := n0) (n := n0 + 4) rfl (by omega) hML (st_FL_R hn hL) (fun fL' gL' pL ZL σ rL gL GL hσ loL hiL => ?_)
    have hk := pr_kerM (pr_ker (n := n0 + 4) rfl (by omega) hML GL hσ loL hiL)
    unfold wp_RD_kernelRows
    rw [pz_sub hσ]
    refine pr_open (h := 4) (w := 4 - σ) (by omega) (by omega) (fun fH hH => ?_)
    intro P3 hP3
    have fin3 : ∀ fH, st_FH (4 - σ) (fun i j => ZL (σ + i) (n0 + j)) (4 - σ) 0 fH → P3 fH (nI (4 - σ)) := by
      intro fH hH
      refine hP3 fH (nI (4 - σ)) ⟨fun _ => ?_, fun q => absurd ((pz_le (by omega) (by omega)).mpr (Nat.le_refl _)) q⟩
      have hMH := pr_MatT (im := σ) hn (A := st_T (st_X n0 ex)) (fun i j hi hj => st_ok5 hok j hi) GL hσ loL hiL
      refine pr_reduce (h := 4) (w := 4 - σ) (n := 4 - σ + 4) rfl (by omega) hMH (st_FH_R (K := fun i j => ZL (σ + i) (n0 + j)) (by omega) hH) (fun fH' gH' pH ZH τ rH gH GH hτ loH hiH => ?_)
      refine hp _ _ _ _ _ _ _ _ _ _ _ _ _ _ _ _ (by decide) hel ⟨4 - σ, τ, ZH, rfl, rfl, rfl, hτ, by omega, rH, 4 - σ, _, _, _, by omega, hk, pr_kerM (pr_ker (n := 4 - σ + 4) rfl (by omega) hMH GH hτ loH hiH)⟩
    have key3 : ∀ (m e : Nat) (fH : Nat → Int64), e + m = 4 - σ → st_FH (4 - σ) (fun i j => ZL (σ + i) (n0 + j)) e 0 fH → P3 fH (nI e) := by
      intro m
      induction m with
      | zero => intro e fH he hH; rw [show e = 4 - σ by omega] at hH ⊢; exact fin3 fH hH
      | succ m ih =>
        intro e fH he hH
        refine hP3 fH (nI e) ⟨fun q => by rw [pz_le (by omega) (by omega)] at q; omega, fun _ => ?_⟩
        intro P4 hP4
        have key4 : ∀ (m l : Nat) (fH : Nat → Int64), l + m = 4 → st_FH (4 - σ) (fun i j => ZL (σ + i) (n0 + j)) e l fH → P4 fH (nI l) := by
          intro m
          induction m with
          | zero =>
            intro l fH hl hH
            rw [show l = 4 by omega] at hH ⊢
            refine hP4 fH (nI 4) ⟨fun _ v hv => ?_, fun q => absurd ((pz_le (a := 4) (b := 4) (by omega) (by omega)).mpr (Nat.le_refl _)) q⟩
            rw [hv, nI_1]
            exact ih (e + 1) fH (by omega) (st_FH_n hH)
          | succ m ih4 =>
            intro l fH hl hH
            refine hP4 fH (nI l) ⟨fun q => by rw [show (4 : Int32) = nI 4 from rfl, pz_le (by omega) (by omega)] at q; omega, fun _ => ?_⟩
            unfold wp_RD_kernel
            rw [nI_add, nI_add]
            refine pz_cell (by omega) (by omega) (pz_set (by omega) (by omega) (fun v hv => ?_))
            rw [hv, nI_1, rL (σ + e) (n0 + l) (by omega) (by omega)]
            exact ih4 (l + 1) _ (by omega) (st_FH_s (by omega) (by omega) (by omega) hH)
        exact key4 4 0 fH (by omega) hH
    exact key3 (4 - σ) 0 fH (by omega) (fun i c hi hc => (hH i c hi hc).trans (if_neg (by omega)).symm)
  have key : ∀ (m e : Nat) (fE fL : Nat → Int64), e + m = n0 → st_FE n0 ex e 0 fE → st_FL n0 ex e 0 fL → P fE fL (nI e) := by
    intro m
    induction m with
    | zero => intro e fE fL he hE hL; rw [show e = n0 by omega] at hE hL ⊢; exact fin fE fL hE hL
    | succ m ih =>
      intro e fE fL he hE hL
      refine hP fE fL (nI e) ⟨fun q => by rw [pz_le (by omega) (by omega)] at q; omega, fun _ => ?_⟩
      intro P4 hP4
      have key4 : ∀ (m l : Nat) (fE fL : Nat → Int64), l + m = 4 → st_FE n0 ex e l fE → st_FL n0 ex e l fL → P4 fE fL (nI l) := by
        intro m
        induction m with
        | zero =>
          intro l fE fL hl hE hL
          rw [show l = 4 by omega] at hE hL ⊢
          refine hP4 fE fL (nI 4) ⟨fun _ v hv => ?_, fun q => absurd ((pz_le (a := 4) (b := 4) (by omega) (by omega)).mpr (Nat.le_refl _)) q⟩
          rw [hv, nI_1]
          exact ih (e + 1) fE fL (by omega) (st_FE_n hE) (st_FL_n hL)
        | succ m ih4 =>
          intro l fE fL hl hE hL
          refine hP4 fE fL (nI l) ⟨fun q => by rw [show (4 : Int32) = nI 4 from rfl, pz_le (by omega) (by omega)] at q; omega, fun _ => ?_⟩
          rw [pz_4]
          refine ⟨pz_in (by omega) (by omega), fun v hv => ?_⟩
          rw [pz_c (by omega)] at hv
          refine pz_set (by omega) (by omega) (pz_set (by omega) (by omega) (fun v' hv' => ?_))
          rw [hv', nI_1, hv]
          exact ih4 (l + 1) _ _ (by omega) (st_FE_s (by omega) hn (by omega) hE) (st_FL_s (by omega) hn (by omega) hL)
      exact key4 4 0 fE fL (by omega) hE hL
  exact key n0 0 fE fL (by omega) (fun i c hi hc => (hE i c hi hc).trans (if_neg (by omega)).symm) (fun i c hi hc => (hL i c hi hc).trans (if_neg (by omega)).symm)
