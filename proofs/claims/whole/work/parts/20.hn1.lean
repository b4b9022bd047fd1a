/-! Rows of whole numbers, what they generate, and the BASE of it: there is but one. -/
def hn_sum : Nat → (Nat → Int) → Int
  | 0, _ => 0
  | k + 1, f => hn_sum k f + f k
theorem hn_sum_s (k : Nat) (f : Nat → Int) : hn_sum (k + 1) f = hn_sum k f + f k := rfl
theorem hn_sum_congr {k : Nat} {f g : Nat → Int} (h : ∀ i, i < k → f i = g i) : hn_sum k f = hn_sum k g := by
  induction k with
  | zero => rfl
  | succ k ih => rw [hn_sum_s, hn_sum_s, ih (fun i hi => h i (by omega)), h k (by omega)]
theorem hn_sum_zero {k : Nat} {f : Nat → Int} (h : ∀ i, i < k → f i = 0) : hn_sum k f = 0 := by
  induction k with
  | zero => rfl
  | succ k ih => rw [hn_sum_s, ih (fun i hi => h i (by omega)), h k (by omega)]; rfl
theorem hn_sum_add (k : Nat) (f g : Nat → Int) : hn_sum k (fun i => f i + g i) = hn_sum k f + hn_sum k g := by
  induction k with
  | zero => rfl
  | succ k ih => rw [hn_sum_s, hn_sum_s, hn_sum_s, ih]; omega
theorem hn_sum_mul (k : Nat) (c : Int) (f : Nat → Int) : hn_sum k (fun i => c * f i) = c * hn_sum k f := by
  induction k with
  | zero => show (0 : Int) = c * 0; omega
  | succ k ih => rw [hn_sum_s, hn_sum_s, ih, Int.mul_add]
theorem hn_sum_one {k i0 : Nat} {f : Nat → Int} (h : i0 < k) (h0 : ∀ i, i < k → i ≠ i0 → f i = 0) : hn_sum k f = f i0 := by
  induction k with
  | zero => omega
  | succ k ih =>
    rw [hn_sum_s]
    by_cases hk : i0 = k
    · subst hk
      rw [hn_sum_zero (fun i hi => h0 i (by omega) (by omega))]; omega
    · rw [ih (by omega) (fun i hi hn => h0 i (by omega) hn), h0 k (by omega) (fun q => hk q.symm)]; omega
/-- v is, on the first n places, a sum of whole multiples of the first k rows -/
def hn_In (n k : Nat) (B : Nat → Nat → Int) (v : Nat → Int) : Prop := ∃ c : Nat → Int, ∀ j, j < n → v j = hn_sum k (fun i => c i * B i j)
theorem hn_In_congr {n k : Nat} {B : Nat → Nat → Int} {v w : Nat → Int} (h : hn_In n k B v) (e : ∀ j, j < n → w j = v j) : hn_In n k B w := by
  obtain ⟨c, hc⟩ := h
  exact ⟨c, fun j hj => (e j hj).trans (hc j hj)⟩
theorem hn_In_zero {n k : Nat} {B : Nat → Nat → Int} : hn_In n k B (fun _ => 0) := ⟨fun _ => 0, fun j _ => (hn_sum_zero (fun i _ => Int.zero_mul _)).symm⟩
theorem hn_In_add {n k : Nat} {B : Nat → Nat → Int} {v w : Nat → Int} (h : hn_In n k B v) (g : hn_In n k B w) : hn_In n k B (fun j => v j + w j) := by
  obtain ⟨c, hc⟩ := h
  obtain ⟨d, hd⟩ := g
  refine ⟨fun i => c i + d i, fun j hj => ?_⟩
  show v j + w j = hn_sum k (fun i => (c i + d i) * B i j)
  rw [show (fun i => (c i + d i) * B i j) = (fun i => c i * B i j + d i * B i j) from funext (fun i => Int.add_mul _ _ _), hn_sum_add, hc j hj, hd j hj]
theorem hn_In_mul {n k : Nat} {B : Nat → Nat → Int} {v : Nat → Int} (a : Int) (h : hn_In n k B v) : hn_In n k B (fun j => a * v j) := by
  obtain ⟨c, hc⟩ := h
  refine ⟨fun i => a * c i, fun j hj => ?_⟩
  show a * v j = hn_sum k (fun i => a * c i * B i j)
  rw [show (fun i => a * c i * B i j) = (fun i => a * (c i * B i j)) from funext (fun i => Int.mul_assoc _ _ _), hn_sum_mul, hc j hj]
theorem hn_In_sub {n k : Nat} {B : Nat → Nat → Int} {v w : Nat → Int} (h : hn_In n k B v) (g : hn_In n k B w) : hn_In n k B (fun j => v j - w j) :=
  hn_In_congr (hn_In_add h (hn_In_mul (-1) g)) (fun j _ => by show v j - w j = v j + -1 * w j; omega)
theorem hn_In_row {n k : Nat} {B : Nat → Nat → Int} {i : Nat} (hi : i < k) : hn_In n k B (B i) := by
  refine ⟨fun l => if l = i then 1 else 0, fun j _ => ?_⟩
  rw [hn_sum_one hi (fun l _ hl => by simp [hl])]
  simp
theorem hn_In_trans {n k k' : Nat} {B B' : Nat → Nat → Int} (h : ∀ i, i < k' → hn_In n k B (B' i)) {v : Nat → Int} (g : hn_In n k' B' v) : hn_In n k B v := by
  obtain ⟨d, hd⟩ := g
  refine hn_In_congr (v := fun j => hn_sum k' (fun i => d i * B' i j)) ?_ hd
  clear hd
  induction k' with
  | zero => exact hn_In_zero
  | succ k' ih => exact hn_In_add (ih (fun i hi => h i (by omega))) (hn_In_mul (d k') (h k' (by omega)))
/-- rows 0 .. r - 1 are a BASE on n places: p i is where row i begins -/
def hn_Base (n r : Nat) (p : Nat → Nat) (B : Nat → Nat → Int) : Prop :=
  (∀ i, i < r → p i < n) ∧ (∀ i k, i < k → k < r → p i < p k) ∧ (∀ i j, i < r → j < p i → B i j = 0) ∧ (∀ i, i < r → 0 < B i (p i)) ∧ (∀ i k, i < k → k < r → 0 ≤ B i (p k) ∧ B i (p k) < B k (p k))
/-- at the beginning of row l only the rows up to l count -/
theorem hn_at {n r : Nat} {p : Nat → Nat} {B : Nat → Nat → Int} (hB : hn_Base n r p B) (c : Nat → Int) {l : Nat} (hl : l < r) (h0 : ∀ i, i < l → c i = 0) : hn_sum r (fun i => c i * B i (p l)) = c l * B l (p l) := by
  refine hn_sum_one hl (fun i hi hne => ?_)
  rcases Nat.lt_or_gt_of_ne hne with h | h
  · rw [h0 i h, Int.zero_mul]
  · rw [hB.2.2.1 i (p l) hi (hB.2.1 l i h hi), Int.mul_zero]
theorem hn_coef0 {n r : Nat} {p : Nat → Nat} {B : Nat → Nat → Int} (hB : hn_Base n r p B) {c v : Nat → Int} (hv : ∀ j, j < n → v j = hn_sum r (fun i => c i * B i j)) {q : Nat} (h0 : ∀ j, j < n → j < q → v j = 0) : ∀ l, l < r → p l < q → c l = 0 := by
  intro l
  induction l using Nat.strongRecOn with
  | ind l ih =>
    intro hl hq
    have h1 := hv (p l) (hB.1 l hl)
    rw [h0 (p l) (hB.1 l hl) hq, hn_at hB c hl (fun i hi => ih i hi (by omega) (by have := hB.2.1 i l hi hl; omega))] at h1
    have h2 := hB.2.2.2.1 l hl
    rcases Int.mul_eq_zero.mp h1.symm with h | h
    · exact h
    · omega
/-- a row of what a base generates that isn't 0 begins where some row of the base does, with a multiple of its beginning -/
theorem hn_begins {n r : Nat} {p : Nat → Nat} {B : Nat → Nat → Int} (hB : hn_Base n r p B) {v : Nat → Int} (hv : hn_In n r B v) {q : Nat} (hq : q < n) (h0 : ∀ j, j < q → v j = 0) (hne : v q ≠ 0) : ∃ l, l < r ∧ p l = q ∧ ∃ c, v q = c * B l (p l) := by
  obtain ⟨c, hc⟩ := hv
  have hz := hn_coef0 hB hc (q := q) (fun j _ hj => h0 j hj)
  rcases Classical.em (∃ l, l < r ∧ p l = q) with ⟨l, hl, he⟩ | hno
  · refine ⟨l, hl, he, c l, ?_⟩
    rw [hc q hq, ← he]
    exact hn_at hB c hl (fun i hi => hz i (by omega) (by have := hB.2.1 i l hi hl; omega))
  · exfalso
    apply hne
    rw [hc q hq]
    refine hn_sum_zero (fun i hi => ?_)
    rcases Nat.lt_trichotomy (p i) q with h | h | h
    · rw [hz i hi h, Int.zero_mul]
    · exact absurd ⟨i, hi, h⟩ hno
    · rw [hB.2.2.1 i q hi h, Int.mul_zero]
theorem hn_piv_in {n r r' : Nat} {p p' : Nat → Nat} {B B' : Nat → Nat → Int} (hB : hn_Base n r p B) (hB' : hn_Base n r' p' B') (h : ∀ i, i < r → hn_In n r' B' (B i)) {i : Nat} (hi : i < r) : ∃ l, l < r' ∧ p' l = p i ∧ ∃ c, B i (p i) = c * B' l (p i) := by
  have hp := hB.2.2.2.1 i hi
  obtain ⟨l, hl, he, c, hc⟩ := hn_begins hB' (h i hi) (hB.1 i hi) (fun j hj => hB.2.2.1 i j hi hj) (by omega)
  exact ⟨l, hl, he, c, by rw [hc, he]⟩
/-- two rising rows of numbers with the same numbers are the same -/
theorem hn_rise {r r' : Nat} {p p' : Nat → Nat} (h : ∀ i k, i < k → k < r → p i < p k) (h' : ∀ i k, i < k → k < r' → p' i < p' k) (a : ∀ i, i < r → ∃ l, l < r' ∧ p' l = p i) (b : ∀ i, i < r' → ∃ l, l < r ∧ p l = p' i) : r ≤ r' ∧ ∀ i, i < r → p i = p' i := by
  have key : ∀ i, i < r → i < r' ∧ p i = p' i := by
    intro i
    induction i using Nat.strongRecOn with
    | ind i ih =>
      intro hi
      obtain ⟨l, hl, e⟩ := a i hi
      have hli : i ≤ l := by
        rcases Nat.lt_or_ge l i with q | q
        · have h1 := (ih l q (by omega)).2
          have h2 := h l i q hi
          omega
        · exact q
      refine ⟨by omega, ?_⟩
      rcases Nat.eq_or_lt_of_le hli with q | q
      · rw [q]; rw [← q] at e ⊢; omega
      · obtain ⟨k, hk, e2⟩ := b i (by omega)
        have h3 := h' i l q hl
        rcases Nat.lt_trichotomy k i with z | z | z
        · have h4 := (ih k z (by omega)).2
          have h5 := h' k i z (by omega)
          omega
        · subst z; exact e2
        · have h4 := h i k z hk
          omega
  refine ⟨?_, fun i hi => (key i hi).2⟩
  rcases Nat.eq_zero_or_pos r with z | z
  · omega
  · have := (key (r - 1) (by omega)).1
    omega
theorem hn_dvd_eq {x y c d : Int} (hx : 0 < x) (hy : 0 < y) (h1 : x = c * y) (h2 : y = d * x) : x = y := by
  have a : x ∣ y := ⟨d, by rw [Int.mul_comm]; exact h2⟩
  have b : y ∣ x := ⟨c, by rw [Int.mul_comm]; exact h1⟩
  exact Int.le_antisymm (Int.le_of_dvd hy a) (Int.le_of_dvd hx b)
/-- THE BASE IS ONE: two bases that generate the same are the same -/
theorem hn_unique {n r r' : Nat} {p p' : Nat → Nat} {B B' : Nat → Nat → Int} (hB : hn_Base n r p B) (hB' : hn_Base n r' p' B') (h : ∀ i, i < r → hn_In n r' B' (B i)) (h' : ∀ i, i < r' → hn_In n r B (B' i)) : r = r' ∧ ∀ i, i < r → p i = p' i ∧ ∀ j, j < n → B i j = B' i j := by
  have a1 : ∀ i, i < r → ∃ l, l < r' ∧ p' l = p i := fun i hi => by obtain ⟨l, x, y, -⟩ := hn_piv_in hB hB' h hi; exact ⟨l, x, y⟩
  have a2 : ∀ i, i < r' → ∃ l, l < r ∧ p l = p' i := fun i hi => by obtain ⟨l, x, y, -⟩ := hn_piv_in hB' hB h' hi; exact ⟨l, x, y⟩
  obtain ⟨q1, hp⟩ := hn_rise hB.2.1 hB'.2.1 a1 a2
  obtain ⟨q2, hp'⟩ := hn_rise hB'.2.1 hB.2.1 a2 a1
  have hr : r = r' := by omega
  subst hr
  have hinj : ∀ i k, i < r → k < r → p i = p k → i = k := by
    intro i k hi hk e
    rcases Nat.lt_trichotomy i k with z | z | z
    · have := hB.2.1 i k z hk; omega
    · exact z
    · have := hB.2.1 k i z hi; omega
  have hv : ∀ i, i < r → B i (p i) = B' i (p i) := by
    intro i hi
    obtain ⟨l, hl, e, c, hc⟩ := hn_piv_in hB hB' h hi
    obtain ⟨k, hk, e2, d, hd⟩ := hn_piv_in hB' hB h' hi
    have hli : l = i := hinj l i hl hi (by rw [hp l hl]; exact e)
    have hki : k = i := hinj k i hk hi (by rw [e2, hp i hi])
    rw [hli] at hc
    rw [hki, ← hp i hi] at hd
    have x1 := hB.2.2.2.1 i hi
    have x2 := hB'.2.2.2.1 i hi
    rw [← hp i hi] at x2
    exact hn_dvd_eq x1 x2 hc hd
  refine ⟨rfl, fun i hi => ⟨hp i hi, fun j hj => ?_⟩⟩
  have hD : hn_In n r B (fun j => B i j - B' i j) := hn_In_sub (hn_In_row hi) (h' i hi)
  obtain ⟨c, hc⟩ := hD
  have hz : ∀ l, l < r → p l < p i + 1 → c l = 0 := hn_coef0 hB (v := fun j => B i j - B' i j) hc (q := p i + 1) (fun j hj hq => by
    show B i j - B' i j = 0
    rcases Nat.eq_or_lt_of_le (Nat.le_of_lt_succ hq) with z | z
    · rw [z, hv i hi]; omega
    · rw [hB.2.2.1 i j hi z, hB'.2.2.1 i j hi (by rw [← hp i hi]; exact z)]; rfl)
  have hall : ∀ l, l < r → c l = 0 := by
    intro l
    induction l using Nat.strongRecOn with
    | ind l ih =>
      intro hl
      rcases Nat.lt_or_ge i l with z | z
      · have e := hc (p l) (hB.1 l hl)
        rw [hn_at hB c hl (fun k hk => ih k hk (by omega))] at e
        have b1 := hB.2.2.2.2 i l z hl
        have b2 := hB'.2.2.2.2 i l z hl
        rw [← hp l hl, ← hv l hl] at b2
        have x1 := hB.2.2.2.1 l hl
        have e : B i (p l) - B' i (p l) = c l * B l (p l) := e
        rcases Int.lt_trichotomy (c l) 0 with y | y | y
        · have : c l * B l (p l) ≤ (-1) * B l (p l) := Int.mul_le_mul_of_nonneg_right (by omega) (by omega)
          omega
        · exact y
        · have : 1 * B l (p l) ≤ c l * B l (p l) := Int.mul_le_mul_of_nonneg_right (by omega) (by omega)
          omega
      · refine hz l hl ?_
        rcases Nat.eq_or_lt_of_le z with y | y
        · rw [y]; omega
        · have := hB.2.1 l i y hi; omega
  have e := hc j hj
  rw [hn_sum_zero (fun l hl => by rw [hall l hl, Int.zero_mul])] at e
  have e : B i j - B' i j = 0 := e
  omega
