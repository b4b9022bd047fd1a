/-! Row operations keep what the rows generate. -/
def hn_Same (n k : Nat) (Z Z' : Nat → Nat → Int) : Prop := (∀ i, i < k → hn_In n k Z (Z' i)) ∧ ∀ i, i < k → hn_In n k Z' (Z i)
theorem hn_Same_rf {n k : Nat} {Z : Nat → Nat → Int} : hn_Same n k Z Z := ⟨fun _ h => hn_In_row h, fun _ h => hn_In_row h⟩
theorem hn_Same_tr {n k : Nat} {Z Z1 Z2 : Nat → Nat → Int} (h : hn_Same n k Z Z1) (g : hn_Same n k Z1 Z2) : hn_Same n k Z Z2 :=
  ⟨fun i hi => hn_In_trans h.1 (g.1 i hi), fun i hi => hn_In_trans g.2 (h.2 i hi)⟩
theorem hn_Same_sy {n k : Nat} {Z Z1 : Nat → Nat → Int} (h : hn_Same n k Z Z1) : hn_Same n k Z1 Z := ⟨h.2, h.1⟩
/-- a multiple of another row is taken away -/
theorem hn_Same_take {n k : Nat} {Z Z' : Nat → Nat → Int} {r o : Nat} {q : Int} (hr : r < k) (ho : o < k) (hne : r ≠ o) (h1 : ∀ j, j < n → Z' r j = Z r j - q * Z o j) (h2 : ∀ i, i < k → i ≠ r → ∀ j, j < n → Z' i j = Z i j) : hn_Same n k Z Z' := by
  constructor
  · intro i hi
    by_cases e : i = r
    · subst e
      exact hn_In_congr (hn_In_sub (hn_In_row hr) (hn_In_mul q (hn_In_row ho))) h1
    · exact hn_In_congr (hn_In_row hi) (h2 i hi e)
  · intro i hi
    by_cases e : i = r
    · subst e
      exact hn_In_congr (hn_In_add (hn_In_row hr) (hn_In_mul q (hn_In_row ho))) (fun j hj => by
        show Z i j = Z' i j + q * Z' o j
        rw [h1 j hj, h2 o ho (fun z => hne z.symm) j hj]; omega)
    · exact hn_In_congr (hn_In_row hi) (fun j hj => (h2 i hi e j hj).symm)
theorem hn_Same_neg {n k : Nat} {Z Z' : Nat → Nat → Int} {r : Nat} (hr : r < k) (h1 : ∀ j, j < n → Z' r j = -Z r j) (h2 : ∀ i, i < k → i ≠ r → ∀ j, j < n → Z' i j = Z i j) : hn_Same n k Z Z' := by
  constructor
  · intro i hi
    by_cases e : i = r
    · subst e
      exact hn_In_congr (hn_In_mul (-1) (hn_In_row hr)) (fun j hj => by show Z' i j = -1 * Z i j; rw [h1 j hj]; omega)
    · exact hn_In_congr (hn_In_row hi) (h2 i hi e)
  · intro i hi
    by_cases e : i = r
    · subst e
      exact hn_In_congr (hn_In_mul (-1) (hn_In_row hr)) (fun j hj => by show Z i j = -1 * Z' i j; rw [h1 j hj]; omega)
    · exact hn_In_congr (hn_In_row hi) (fun j hj => (h2 i hi e j hj).symm)
/-- the same rows in another order, told by a map there and one back -/
theorem hn_Same_perm {n k : Nat} {Z Z' : Nat → Nat → Int} (f g : Nat → Nat) (hf : ∀ i, i < k → f i < k ∧ ∀ j, j < n → Z' i j = Z (f i) j) (hg : ∀ i, i < k → g i < k ∧ ∀ j, j < n → Z i j = Z' (g i) j) : hn_Same n k Z Z' :=
  ⟨fun i hi => hn_In_congr (hn_In_row (hf i hi).1) (hf i hi).2, fun i hi => hn_In_congr (hn_In_row (hg i hi).1) (hg i hi).2⟩
/-- one row more on both sides -/
theorem hn_Same_more {n k : Nat} {Z Z' : Nat → Nat → Int} (h : hn_Same n k Z Z') (he : ∀ j, j < n → Z' k j = Z k j) : hn_Same n (k + 1) Z Z' := by
  have up : ∀ {Y : Nat → Nat → Int} {v : Nat → Int}, hn_In n k Y v → hn_In n (k + 1) Y v := by
    intro Y v ⟨c, hc⟩
    refine ⟨fun i => if i = k then 0 else c i, fun j hj => ?_⟩
    rw [hn_sum_s, hc j hj]
    have e1 : hn_sum k (fun i => c i * Y i j) = hn_sum k (fun i => (if i = k then 0 else c i) * Y i j) := hn_sum_congr (fun i hi => by rw [if_neg (by omega)])
    rw [e1]
    simp
  constructor
  · intro i hi
    by_cases e : i = k
    · subst e; exact hn_In_congr (hn_In_row (by omega)) he
    · exact up (h.1 i (by omega))
  · intro i hi
    by_cases e : i = k
    · subst e; exact hn_In_congr (hn_In_row (by omega)) (fun j hj => (he j hj).symm)
    · exact up (h.2 i (by omega))
