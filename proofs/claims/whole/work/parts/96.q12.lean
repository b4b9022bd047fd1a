/-! Determinants by the bits of rows and columns: along the last row, along the first. -/
def dv_pc (n : Nat) : Nat := n % 2 + n / 2 % 2 + n / 4 % 2 + n / 8 % 2
def dv_l (n : Nat) : List Nat := (if n % 2 = 1 then [0] else []) ++ ((if n / 2 % 2 = 1 then [1] else []) ++ ((if n / 4 % 2 = 1 then [2] else []) ++ (if n / 8 % 2 = 1 then [3] else [])))
def dv_m (A : Nat → Nat → Int) : List Nat → List Nat → Int
  | [], [] => 1
  | [i], [a] => A i a
  | [i, j], [a, b] => hn_d2 (A i) (A j) a b
  | [i, j, k], [a, b, c] => hn_d3 (A i) (A j) (A k) a b c
  | [i, j, k, l], [a, b, c, d] => hn_d4 (A i) (A j) (A k) (A l) a b c d
  | _, _ => 0
def dv (A : Nat → Nat → Int) (R C : Nat) : Int := dv_m A (dv_l R) (dv_l C)
/-- alternating sums over the bits of C: downwards and upwards -/
def dv_dn (C : Nat) (f g : Nat → Int) : Nat → Int × Int
  | 0 => (0, 1)
  | d + 1 => if C / 2 ^ (3 - d) % 2 = 1 then ((dv_dn C f g d).1 + (dv_dn C f g d).2 * f (3 - d) * g (3 - d), -(dv_dn C f g d).2) else dv_dn C f g d
def dv_up (C : Nat) (f g : Nat → Int) : Nat → Int × Int
  | 0 => (0, 1)
  | d + 1 => if C / 2 ^ d % 2 = 1 then ((dv_up C f g d).1 + (dv_up C f g d).2 * f d * g d, -(dv_up C f g d).2) else dv_up C f g d
theorem dv_len : ∀ n, n < 16 → (dv_l n).length = dv_pc n := by decide
theorem dv_last : ∀ n, n < 4 → ∀ a, a < 2 ^ n → dv_l (2 ^ n + a) = dv_l a ++ [n] := by decide
theorem dv_len0 {l : List Nat} (h : l.length = 0) : l = [] := List.length_eq_zero_iff.mp h
theorem dv_len1 {l : List Nat} (h : l.length = 1) : ∃ a, l = [a] := List.length_eq_one_iff.mp h
theorem dv_len2 {l : List Nat} (h : l.length = 2) : ∃ a b, l = [a, b] := by
  match l, h with
  | [a, b], _ => exact ⟨a, b, rfl⟩
theorem dv_len3 {l : List Nat} (h : l.length = 3) : ∃ a b c, l = [a, b, c] := by
  match l, h with
  | [a, b, c], _ => exact ⟨a, b, c, rfl⟩
/-- every set of columns, by its size -/
theorem dv_cases {P : Nat → Prop} (h : ∀ C ∈ [0, 1, 2, 3, 4, 5, 6, 7, 8, 9, 10, 11, 12, 13, 14, 15], P C) : ∀ C, C < 16 → P C := by
  intro C hC
  refine h C ?_
  have : ∀ C, C < 16 → C ∈ [0, 1, 2, 3, 4, 5, 6, 7, 8, 9, 10, 11, 12, 13, 14, 15] := by decide
  exact this C hC
theorem dv_id3 (u v w : Nat → Int) (a b c : Nat) : w c * hn_d2 u v a b - w b * hn_d2 u v a c + w a * hn_d2 u v b c = hn_d3 u v w a b c := by
  simp only [hn_d3, hn_d2]; grind
theorem dv_id4 (u v w x : Nat → Int) (a b c d : Nat) : x d * hn_d3 u v w a b c - x c * hn_d3 u v w a b d + x b * hn_d3 u v w a c d - x a * hn_d3 u v w b c d = hn_d4 u v w x a b c d := by
  simp only [hn_d4, hn_d3, hn_d2]; grind
set_option maxHeartbeats 4000000 in
theorem dv_downs (A : Nat → Nat → Int) {n a : Nat} (hn : n < 4) (ha : a < 2 ^ n) : ∀ C, C < 16 → dv_pc C = dv_pc a + 1 → (dv_dn C (A n) (fun l => dv A a (C - 2 ^ l)) 4).1 = dv A (2 ^ n + a) C := by
  have ha16 : a < 16 := by
    have : 2 ^ n ≤ 2 ^ 3 := Nat.pow_le_pow_right (by decide) (by omega)
    omega
  have hl := dv_len a ha16
  have hla := dv_last n hn a ha
  have k1 : dv_pc a = 0 → dv_l a = [] := fun e => dv_len0 (by omega)
  have k2 : dv_pc a = 1 → ∃ i, dv_l a = [i] := fun e => dv_len1 (by omega)
  have k3 : dv_pc a = 2 → ∃ i j, dv_l a = [i, j] := fun e => dv_len2 (by omega)
  have k4 : dv_pc a = 3 → ∃ i j k, dv_l a = [i, j, k] := fun e => dv_len3 (by omega)
  refine dv_cases (fun C hC hpc => ?_)
  simp only [List.mem_cons, List.not_mem_nil, or_false] at hC
  unfold dv
  rw [hla]
  rcases hC with rfl | rfl | rfl | rfl | rfl | rfl | rfl | rfl | rfl | rfl | rfl | rfl | rfl | rfl | rfl | rfl
  all_goals simp only [show dv_pc 0 = 0 from rfl, show dv_pc 1 = 1 from rfl, show dv_pc 2 = 1 from rfl, show dv_pc 3 = 2 from rfl, show dv_pc 4 = 1 from rfl, show dv_pc 5 = 2 from rfl, show dv_pc 6 = 2 from rfl, show dv_pc 7 = 3 from rfl, show dv_pc 8 = 1 from rfl, show dv_pc 9 = 2 from rfl, show dv_pc 10 = 2 from rfl, show dv_pc 11 = 3 from rfl, show dv_pc 12 = 2 from rfl, show dv_pc 13 = 3 from rfl, show dv_pc 14 = 3 from rfl, show dv_pc 15 = 4 from rfl] at hpc
  case inl => omega
  all_goals first
    | (have e := k1 (by omega); rw [e]; simp [dv_dn, dv_l, dv_m]; done)
    | (obtain ⟨i, e⟩ := k2 (by omega); rw [e]; simp [dv_dn, dv_l, dv_m, hn_d2]; grind)
    | (obtain ⟨i, j, e⟩ := k3 (by omega); rw [e]; simp [dv_dn, dv_l, dv_m]; rw [← dv_id3]; grind)
    | (obtain ⟨i, j, k, e⟩ := k4 (by omega); rw [e]; simp [dv_dn, dv_l, dv_m]; rw [← dv_id4]; grind)
theorem dv_first : ∀ R, R < 16 → ∀ n, n < 4 → R / 2 ^ n % 2 = 1 → R % 2 ^ n = 0 → dv_l R = n :: dv_l (R - 2 ^ n) ∧ dv_pc R = dv_pc (R - 2 ^ n) + 1 := by decide
set_option maxHeartbeats 4000000 in
theorem dv_ups (A : Nat → Nat → Int) {n R : Nat} (hR : R < 16) (hn : n < 4) (h1 : R / 2 ^ n % 2 = 1) (h2 : R % 2 ^ n = 0) : ∀ C, C < 16 → dv_pc C = dv_pc R → (dv_up C (A n) (fun l => dv A (R - 2 ^ n) (C - 2 ^ l)) 4).1 = dv A R C := by
  obtain ⟨hla, hpR⟩ := dv_first R hR n hn h1 h2
  have hl := dv_len (R - 2 ^ n) (by omega)
  have k1 : dv_pc (R - 2 ^ n) = 0 → dv_l (R - 2 ^ n) = [] := fun e => dv_len0 (by omega)
  have k2 : dv_pc (R - 2 ^ n) = 1 → ∃ i, dv_l (R - 2 ^ n) = [i] := fun e => dv_len1 (by omega)
  have k3 : dv_pc (R - 2 ^ n) = 2 → ∃ i j, dv_l (R - 2 ^ n) = [i, j] := fun e => dv_len2 (by omega)
  have k4 : dv_pc (R - 2 ^ n) = 3 → ∃ i j k, dv_l (R - 2 ^ n) = [i, j, k] := fun e => dv_len3 (by omega)
  rw [hpR]
  refine dv_cases (fun C hC hpc => ?_)
  simp only [List.mem_cons, List.not_mem_nil, or_false] at hC
  unfold dv
  rw [hla]
  rcases hC with rfl | rfl | rfl | rfl | rfl | rfl | rfl | rfl | rfl | rfl | rfl | rfl | rfl | rfl | rfl | rfl
  all_goals simp only [show dv_pc 0 = 0 from rfl, show dv_pc 1 = 1 from rfl, show dv_pc 2 = 1 from rfl, show dv_pc 3 = 2 from rfl, show dv_pc 4 = 1 from rfl, show dv_pc 5 = 2 from rfl, show dv_pc 6 = 2 from rfl, show dv_pc 7 = 3 from rfl, show dv_pc 8 = 1 from rfl, show dv_pc 9 = 2 from rfl, show dv_pc 10 = 2 from rfl, show dv_pc 11 = 3 from rfl, show dv_pc 12 = 2 from rfl, show dv_pc 13 = 3 from rfl, show dv_pc 14 = 3 from rfl, show dv_pc 15 = 4 from rfl] at hpc
  case inl => omega
  all_goals first
    | (have e := k1 (by omega); rw [e]; simp [dv_up, dv_l, dv_m]; done)
    | (obtain ⟨i, e⟩ := k2 (by omega); rw [e]; simp [dv_up, dv_l, dv_m, hn_d2]; grind)
    | (obtain ⟨i, j, e⟩ := k3 (by omega); rw [e]; simp [dv_up, dv_l, dv_m]; unfold hn_d3; grind)
    | (obtain ⟨i, j, k, e⟩ := k4 (by omega); rw [e]; simp [dv_up, dv_l, dv_m]; unfold hn_d4; grind)
