/-! What the reduced rows say: ahead of the unit columns the base of all sums, behind them the base of all combinations that give 0. -/
theorem hn_In_less {n n' k : Nat} {B : Nat → Nat → Int} {v : Nat → Int} (hn : n ≤ n') (h : hn_In n' k B v) : hn_In n k B v := by
  obtain ⟨c, hc⟩ := h
  exact ⟨c, fun j hj => hc j (by omega)⟩
theorem hn_sum_split (a b : Nat) (f : Nat → Int) : hn_sum (a + b) f = hn_sum a f + hn_sum b (fun i => f (a + i)) := by
  induction b with
  | zero => show hn_sum a f = hn_sum a f + 0; omega
  | succ b ih =>
    show hn_sum (a + b) f + f (a + b) = hn_sum a f + (hn_sum b (fun i => f (a + i)) + f (a + b))
    rw [ih]; omega
/-- B is the base of what the first k rows of A generate on w places -/
def hn_Grp (w k : Nat) (A : Nat → Nat → Int) (r : Nat) (p : Nat → Nat) (B : Nat → Nat → Int) : Prop :=
  hn_Base w r p B ∧ (∀ i, i < r → hn_In w k A (B i)) ∧ ∀ i, i < k → hn_In w r B (A i)
theorem hn_Grp_one {w k r r' : Nat} {A B B' : Nat → Nat → Int} {p p' : Nat → Nat} (h : hn_Grp w k A r p B) (h' : hn_Grp w k A r' p' B') : r = r' ∧ ∀ i, i < r → p i = p' i ∧ ∀ j, j < w → B i j = B' i j :=
  hn_unique h.1 h'.1 (fun i hi => hn_In_trans h'.2.2 (h.2.1 i hi)) (fun i hi => hn_In_trans h.2.2 (h'.2.1 i hi))
/-- K is the base of all rows of h numbers that combine the first h rows of A to 0 on w places -/
def hn_Ker (h w : Nat) (A : Nat → Nat → Int) (r : Nat) (p : Nat → Nat) (K : Nat → Nat → Int) : Prop :=
  hn_Base h r p K ∧ ∀ v : Nat → Int, hn_In h r K v ↔ ∀ j, j < w → hn_sum h (fun i => v i * A i j) = 0
theorem hn_Ker_one {h w r r' : Nat} {A B B' : Nat → Nat → Int} {p p' : Nat → Nat} (a : hn_Ker h w A r p B) (a' : hn_Ker h w A r' p' B') : r = r' ∧ ∀ i, i < r → p i = p' i ∧ ∀ j, j < h → B i j = B' i j :=
  hn_unique a.1 a'.1 (fun i hi => (a'.2 _).mpr ((a.2 _).mp (hn_In_row hi))) (fun i hi => (a.2 _).mpr ((a'.2 _).mp (hn_In_row hi)))
/-- the condition alone matters -/
theorem hn_Ker_iff {h w w' r : Nat} {A A' B : Nat → Nat → Int} {p : Nat → Nat} (a : hn_Ker h w A r p B) (e : ∀ v : Nat → Int, (∀ j, j < w → hn_sum h (fun i => v i * A i j) = 0) ↔ ∀ j, j < w' → hn_sum h (fun i => v i * A' i j) = 0) : hn_Ker h w' A' r p B :=
  ⟨a.1, fun v => (a.2 v).trans (e v)⟩
theorem pr_grp {n w h im : Nat} {M Z : Nat → Nat → Int} {p : Nat → Nat} (hn : w + h = n) (hn8 : n ≤ 8) (hG : pr_Got n w h M p Z) (him : im ≤ h) (h1 : ∀ k, k < im → p k < w) (h2 : ∀ k, im ≤ k → k < h → w ≤ p k) : hn_Grp w h M im p Z := by
  obtain ⟨hB, -, hS, -⟩ := hG
  have hS := hS h (Nat.le_refl _)
  refine ⟨⟨h1, fun i k a b => hB.2.1 i k a (by omega), fun i j a b => hB.2.2.1 i j (by omega) b, fun i a => hB.2.2.2.1 i (by omega), fun i k a b => hB.2.2.2.2 i k a (by omega)⟩, fun i hi => hn_In_less (by omega) (hS.1 i (by omega)), fun i hi => ?_⟩
  obtain ⟨c, hc⟩ := hS.2 i hi
  refine ⟨c, fun j hj => ?_⟩
  rw [hc j (by omega), show h = im + (h - im) by omega, hn_sum_split]
  have : hn_sum (h - im) (fun k => c (im + k) * Z (im + k) j) = 0 := hn_sum_zero (fun k hk => by
    rw [hB.2.2.1 (im + k) j (by omega) (by have := h2 (im + k) (by omega) (by omega); omega), Int.mul_zero])
  omega
/-- what a combination of the rows at the start is: on the unit places, its own numbers -/
theorem pr_comb {w h : Nat} {M : Nat → Nat → Int} (hM : pr_Mat w M) (hh : h ≤ 4) (c : Nat → Int) {k : Nat} (hk : k < h) : hn_sum h (fun i => c i * M i (w + k)) = c k := by
  have hw := hM.1
  rw [hn_sum_one hk (fun i hi hne => by rw [hM.2.2.1 i (w + k) (by omega) (by omega) (by omega) (by omega), Int.mul_zero]), hM.2.1 k (by omega), Int.mul_one]
theorem pr_ker {n w h im : Nat} {M Z : Nat → Nat → Int} {p : Nat → Nat} (hn : w + h = n) (hh : h ≤ 4) (hM : pr_Mat w M) (hG : pr_Got n w h M p Z) (him : im ≤ h) (h1 : ∀ k, k < im → p k < w) (h2 : ∀ k, im ≤ k → k < h → w ≤ p k) :
    hn_Ker h w M (h - im) (fun i => p (im + i) - w) (fun i j => Z (im + i) (w + j)) := by
  have hw := hM.1
  obtain ⟨hB, -, hS, -⟩ := hG
  have hS := hS h (Nat.le_refl _)
  have hz : ∀ i j, im ≤ i → i < h → j < w → Z i j = 0 := fun i j a b c => hB.2.2.1 i j b (by have := h2 i a b; omega)
  refine ⟨⟨fun i hi => ?_, fun i k a b => ?_, fun i j a b => ?_, fun i a => ?_, fun i k a b => ?_⟩, fun v => ⟨fun hv => ?_, fun hv => ?_⟩⟩
  · have a := hB.1 (im + i) (by omega); have b := h2 (im + i) (by omega) (by omega)
    show p (im + i) - w < h
    omega
  · have a1 := hB.2.1 (im + i) (im + k) (by omega) (by omega)
    have a2 := h2 (im + i) (by omega) (by omega)
    show p (im + i) - w < p (im + k) - w
    omega
  · have a2 := h2 (im + i) (by omega) (by omega)
    exact hB.2.2.1 (im + i) (w + j) (by omega) (by have : j < p (im + i) - w := b; omega)
  · have a2 := h2 (im + i) (by omega) (by omega)
    show 0 < Z (im + i) (w + (p (im + i) - w))
    rw [show w + (p (im + i) - w) = p (im + i) by omega]
    exact hB.2.2.2.1 (im + i) (by omega)
  · have a2 := h2 (im + k) (by omega) (by omega)
    show 0 ≤ Z (im + i) (w + (p (im + k) - w)) ∧ Z (im + i) (w + (p (im + k) - w)) < Z (im + k) (w + (p (im + k) - w))
    rw [show w + (p (im + k) - w) = p (im + k) by omega]
    exact hB.2.2.2.2 (im + i) (im + k) (by omega) (by omega)
  · -- a sum of kernel rows gives 0
    obtain ⟨c, hc⟩ := hv
    intro j hj
    -- the row Σ c Z is a combination e of the rows at the start; e = v
    have hin : hn_In 8 h M (fun j => hn_sum (h - im) (fun i => c i * Z (im + i) j)) := by
      have : hn_In 8 h Z (fun j => hn_sum (h - im) (fun i => c i * Z (im + i) j)) := hn_In_trans (B' := fun i j => Z (im + i) j) (fun i hi => hn_In_row (B := Z) (i := im + i) (by omega)) ⟨c, fun j _ => rfl⟩
      exact hn_In_trans hS.1 this
    obtain ⟨e, he⟩ := hin
    have hev : ∀ k, k < h → v k = e k := by
      intro k hk
      rw [hc k hk, ← pr_comb hM hh e hk]
      exact he (w + k) (by omega)
    have e0 := he j (by omega)
    have e1 : hn_sum (h - im) (fun i => c i * Z (im + i) j) = 0 := hn_sum_zero (fun i hi => by rw [hz (im + i) j (by omega) (by omega) hj, Int.mul_zero])
    rw [hn_sum_congr (fun i hi => by rw [hev i hi])]
    rw [← e0]
    exact e1
  · -- a combination that gives 0 is a sum of kernel rows
    have hin : hn_In 8 h Z (fun j => hn_sum h (fun i => v i * M i j)) := hn_In_trans hS.2 ⟨v, fun j _ => rfl⟩
    obtain ⟨c, hc⟩ := hin
    have hc0 := hn_coef0 hB (c := c) (v := fun j => hn_sum h (fun i => v i * M i j)) (fun j hj => hc j (by omega)) (q := w) (fun j _ hj => hv j hj)
    refine ⟨fun i => c (im + i), fun k hk => ?_⟩
    have e1 := hc (w + k) (by omega)
    have e2 : hn_sum h (fun i => v i * M i (w + k)) = v k := pr_comb hM hh v hk
    have e3 : hn_sum h (fun i => c i * Z i (w + k)) = hn_sum im (fun i => c i * Z i (w + k)) + hn_sum (h - im) (fun i => c (im + i) * Z (im + i) (w + k)) := by
      have := hn_sum_split im (h - im) (fun i => c i * Z i (w + k))
      rw [show im + (h - im) = h by omega] at this
      exact this
    have e4 : hn_sum im (fun i => c i * Z i (w + k)) = 0 := hn_sum_zero (fun i hi => by rw [hc0 i (by omega) (h1 i hi), Int.zero_mul])
    show v k = hn_sum (h - im) (fun i => c (im + i) * Z (im + i) (w + k))
    rw [← e2]
    have e1 : hn_sum h (fun i => v i * M i (w + k)) = hn_sum h (fun i => c i * Z i (w + k)) := e1
    omega
