/-! Whole numbers behind the long ones: what row operations do to them. -/
def pr_Rep (n : Nat) (f : Nat → Int64) (Z : Nat → Nat → Int) : Prop := ∀ r c, r < 4 → c < n → f (8 * r + c) = Int64.ofInt (Z r c)
/-- small enough that a long holds it -/
def pr_sm (z : Int) : Prop := z.natAbs < 4611686018427387904
theorem pr_toInt {z : Int} (h : pr_sm z) : (Int64.ofInt z).toInt = z := by
  unfold pr_sm at h
  exact Int64.toInt_ofInt_of_le (by omega) (by omega)
theorem pr_eq0 {z : Int} (h : pr_sm z) : Int64.ofInt z = 0 ↔ z = 0 := by
  constructor
  · intro e
    have := pr_toInt h
    rw [e] at this
    exact this.symm
  · intro e; rw [e]; rfl
theorem pr_lt0 {z : Int} (h : pr_sm z) : Int64.ofInt z < 0 ↔ z < 0 := by
  rw [Int64.lt_iff_toInt_lt, pr_toInt h]
  exact Iff.rfl
theorem pr_cmp0 {z : Int} (h : pr_sm z) : lg_cmp (Int64.ofInt z) 0 = 0 ↔ z = 0 := (lg_cmp_eq _ _).trans (pr_eq0 h)
theorem pr_cmpge {z : Int} (h : pr_sm z) : 0 ≤ lg_cmp (Int64.ofInt z) 0 ↔ 0 ≤ z := by
  rw [lg_cmp_ge, Int64.le_iff_toInt_le, pr_toInt h]
  exact Iff.rfl
theorem pr_cmple {z : Int} (h : pr_sm z) : lg_cmp (Int64.ofInt z) 0 ≤ 0 ↔ z ≤ 0 := by
  rw [lg_cmp_le, Int64.le_iff_toInt_le, pr_toInt h]
  exact Iff.rfl
theorem pr_tdiv {a b : Int} (ha : pr_sm a) (hb : pr_sm b) : Int64.ofInt a / Int64.ofInt b = Int64.ofInt (a.tdiv b) := by
  unfold pr_sm at ha hb
  have h1 : Int64.minValue.toInt = -9223372036854775808 := by decide
  have h2 : Int64.maxValue.toInt = 9223372036854775807 := by decide
  exact (Int64.ofInt_tdiv (by omega) (by omega) (by omega) (by omega)).symm
/-- row r less q times row o -/
def pr_zt (Z : Nat → Nat → Int) (r o : Nat) (q : Int) : Nat → Nat → Int := fun i c => if i = r then Z r c - q * Z o c else Z i c
def pr_zs (Z : Nat → Nat → Int) (r o : Nat) : Nat → Nat → Int := fun i c => if i = r then Z o c else if i = o then Z r c else Z i c
def pr_zn (Z : Nat → Nat → Int) (r : Nat) : Nat → Nat → Int := fun i c => if i = r then -Z r c else Z i c
theorem pr_Rep_t {n : Nat} {f f' : Nat → Int64} {Z : Nat → Nat → Int} {r o : Nat} {k : Int64} {q : Int} (hn : n ≤ 8) (hr : r < 4) (ho : o < 4) (h : pr_Rep n f Z) (hk : k = Int64.ofInt q) (hf : pz_row n f f' r (fun c => f (8 * r + c) - k * f (8 * o + c))) : pr_Rep n f' (pr_zt Z r o q) := by
  intro i c hi hc
  rw [hf i c hi (by omega)]
  unfold pr_zt
  by_cases e : i = r
  · rw [if_pos ⟨e, hc⟩, if_pos e]
    show f (8 * r + c) - k * f (8 * o + c) = _
    rw [h r c hr hc, h o c ho hc, hk, Int64.ofInt_sub, Int64.ofInt_mul]
  · rw [if_neg (fun q => e q.1), if_neg e, h i c hi hc]
theorem pr_Rep_n {n : Nat} {f f' : Nat → Int64} {Z : Nat → Nat → Int} {r : Nat} (hn : n ≤ 8) (hr : r < 4) (h : pr_Rep n f Z) (hf : pz_row n f f' r (fun c => -f (8 * r + c))) : pr_Rep n f' (pr_zn Z r) := by
  intro i c hi hc
  rw [hf i c hi (by omega)]
  unfold pr_zn
  by_cases e : i = r
  · rw [if_pos ⟨e, hc⟩, if_pos e]
    show -f (8 * r + c) = _
    rw [h r c hr hc, Int64.ofInt_neg]
  · rw [if_neg (fun q => e q.1), if_neg e, h i c hi hc]
theorem pr_Rep_s {n : Nat} {f f' : Nat → Int64} {Z : Nat → Nat → Int} {r o : Nat} (hn : n ≤ 8) (hr : r < 4) (ho : o < 4) (h : pr_Rep n f Z) (hf : pz_swp n f f' r o) : pr_Rep n f' (pr_zs Z r o) := by
  intro i c hi hc
  rw [hf i c hi (by omega), if_pos hc]
  unfold pr_zs
  by_cases e : i = r
  · rw [if_pos e, if_pos e, h o c ho hc]
  · rw [if_neg e, if_neg e]
    by_cases e2 : i = o
    · rw [if_pos e2, if_pos e2, h r c hr hc]
    · rw [if_neg e2, if_neg e2, h i c hi hc]
/-- all determinants of the four rows are the same, or turned -/
def pr_D (Z : Nat → Nat → Int) (a b c d : Nat) : Int := hn_d4 (Z 0) (Z 1) (Z 2) (Z 3) a b c d
def pr_Det (Z Z' : Nat → Nat → Int) : Prop := ∀ a b c d, (pr_D Z' a b c d).natAbs = (pr_D Z a b c d).natAbs
theorem pr_Det_rf {Z : Nat → Nat → Int} : pr_Det Z Z := fun _ _ _ _ => rfl
theorem pr_Det_tr {Z Z1 Z2 : Nat → Nat → Int} (h : pr_Det Z Z1) (g : pr_Det Z1 Z2) : pr_Det Z Z2 := fun a b c d => (g a b c d).trans (h a b c d)
set_option maxHeartbeats 4000000 in
theorem pr_Det_t (Z : Nat → Nat → Int) {r o : Nat} (q : Int) (hr : r < 4) (ho : o < 4) (hne : r ≠ o) : pr_Det Z (pr_zt Z r o q) := by
  intro a b c d
  congr 1
  rcases (show r = 0 ∨ r = 1 ∨ r = 2 ∨ r = 3 by omega) with rfl | rfl | rfl | rfl <;> rcases (show o = 0 ∨ o = 1 ∨ o = 2 ∨ o = 3 by omega) with rfl | rfl | rfl | rfl <;> first | exact absurd rfl hne | (simp [pr_D, pr_zt, hn_d4, hn_d3, hn_d2]; grind)
set_option maxHeartbeats 4000000 in
theorem pr_Det_n (Z : Nat → Nat → Int) {r : Nat} (hr : r < 4) : pr_Det Z (pr_zn Z r) := by
  intro a b c d
  have h : pr_D (pr_zn Z r) a b c d = -pr_D Z a b c d := by
    rcases (show r = 0 ∨ r = 1 ∨ r = 2 ∨ r = 3 by omega) with rfl | rfl | rfl | rfl <;> (simp [pr_D, pr_zn, hn_d4, hn_d3, hn_d2]; grind)
  rw [h, Int.natAbs_neg]
set_option maxHeartbeats 4000000 in
theorem pr_Det_s (Z : Nat → Nat → Int) {r o : Nat} (hr : r < 4) (ho : o < 4) (hne : r ≠ o) : pr_Det Z (pr_zs Z r o) := by
  intro a b c d
  have h : pr_D (pr_zs Z r o) a b c d = -pr_D Z a b c d := by
    rcases (show r = 0 ∨ r = 1 ∨ r = 2 ∨ r = 3 by omega) with rfl | rfl | rfl | rfl <;> rcases (show o = 0 ∨ o = 1 ∨ o = 2 ∨ o = 3 by omega) with rfl | rfl | rfl | rfl <;> first | exact absurd rfl hne | (simp [pr_D, pr_zs, hn_d4, hn_d3, hn_d2]; grind)
  rw [h, Int.natAbs_neg]
theorem pr_Same_t {n k : Nat} (Z : Nat → Nat → Int) {r o : Nat} (q : Int) (hr : r < k) (ho : o < k) (hne : r ≠ o) : hn_Same n k Z (pr_zt Z r o q) :=
  hn_Same_take (q := q) hr ho hne (fun j _ => by simp [pr_zt]) (fun i _ hi j _ => by simp [pr_zt, hi])
theorem pr_Same_n {n k : Nat} (Z : Nat → Nat → Int) {r : Nat} (hr : r < k) : hn_Same n k Z (pr_zn Z r) :=
  hn_Same_neg hr (fun j _ => by simp [pr_zn]) (fun i _ hi j _ => by simp [pr_zn, hi])
theorem pr_Same_s {n k : Nat} (Z : Nat → Nat → Int) {r o : Nat} (hr : r < k) (ho : o < k) : hn_Same n k Z (pr_zs Z r o) := by
  refine hn_Same_perm (fun i => if i = r then o else if i = o then r else i) (fun i => if i = r then o else if i = o then r else i) (fun i hi => ?_) (fun i hi => ?_)
  · refine ⟨by split <;> (try split) <;> omega, fun j _ => ?_⟩
    unfold pr_zs
    split
    · rfl
    · split <;> rfl
  · refine ⟨by split <;> (try split) <;> omega, fun j _ => ?_⟩
    unfold pr_zs
    by_cases e : i = r
    · by_cases e2 : o = r
      · simp [e, e2]
      · simp [e, e2]
    · by_cases e2 : i = o
      · simp [e, e2]
      · simp [e, e2]
