/-! Determinants of the exponents and of the group's base. -/
def cr_D (M : Nat → Nat → Int) : List Nat → Int
  | [a, b, c, d] => pr_D M a b c d
  | _ => 0
theorem cr_abs {x y : Int} (h : x = y ∨ x = -y) : x.natAbs = y.natAbs := by
  rcases h with h | h
  · rw [h]
  · rw [h, Int.natAbs_neg]
set_option maxHeartbeats 8000000 in
/-- a determinant of rows S and columns T is one of four rows with the unit columns that S hasn't -/
theorem cr_DM (A : Nat → Nat → Int) {T : Nat} (hT : T < 16) : ∀ S, S < 16 → dv_pc S = dv_pc T → (cr_D (pr_M 4 A) (dv_l T ++ (dv_l (15 - S)).map (fun j => 4 + j))).natAbs = (dv A S T).natAbs := by
  have hl := dv_len T hT
  have cols : ∀ C, C < 16 → ∀ a, a ∈ dv_l C → a < 4 := by decide
  have hc := cols T hT
  have k1 : dv_pc T = 0 → dv_l T = [] := fun e => dv_len0 (by omega)
  have k2 : dv_pc T = 1 → ∃ i, dv_l T = [i] := fun e => dv_len1 (by omega)
  have k3 : dv_pc T = 2 → ∃ i j, dv_l T = [i, j] := fun e => dv_len2 (by omega)
  have k4 : dv_pc T = 3 → ∃ i j k, dv_l T = [i, j, k] := fun e => dv_len3 (by omega)
  have k50 : ∀ T, T < 16 → dv_pc T = 4 → dv_l T = [0, 1, 2, 3] := by decide
  have k5 := k50 T hT
  have ek : ∀ i j, j < 4 → pr_M 4 A i j = A i j := fun i j hj => by simp [pr_M, hj]
  refine dv_cases (fun S hS hpc => ?_)
  simp only [List.mem_cons, List.not_mem_nil, or_false] at hS
  unfold dv
  rcases hS with rfl | rfl | rfl | rfl | rfl | rfl | rfl | rfl | rfl | rfl | rfl | rfl | rfl | rfl | rfl | rfl
  all_goals simp only [show dv_pc 0 = 0 from rfl, show dv_pc 1 = 1 from rfl, show dv_pc 2 = 1 from rfl, show dv_pc 3 = 2 from rfl, show dv_pc 4 = 1 from rfl, show dv_pc 5 = 2 from rfl, show dv_pc 6 = 2 from rfl, show dv_pc 7 = 3 from rfl, show dv_pc 8 = 1 from rfl, show dv_pc 9 = 2 from rfl, show dv_pc 10 = 2 from rfl, show dv_pc 11 = 3 from rfl, show dv_pc 12 = 2 from rfl, show dv_pc 13 = 3 from rfl, show dv_pc 14 = 3 from rfl, show dv_pc 15 = 4 from rfl] at hpc
  all_goals refine cr_abs ?_
  · (have e := k1 (by omega); rw [e]; simp [cr_D, dv_l, dv_m, pr_D, hn_d4, hn_d3, hn_d2, pr_M])
  · (obtain ⟨i, e⟩ := k2 (by omega)
     rw [e] at hc ⊢
     have hi := hc i (by simp)
     simp [cr_D, dv_l, dv_m, pr_D, hn_d4, hn_d3, hn_d2, ek _ i hi]
     simp [pr_M])
  · (obtain ⟨i, e⟩ := k2 (by omega)
     rw [e] at hc ⊢
     have hi := hc i (by simp)
     simp [cr_D, dv_l, dv_m, pr_D, hn_d4, hn_d3, hn_d2, ek _ i hi]
     simp [pr_M])
  · (obtain ⟨i, j, e⟩ := k3 (by omega)
     rw [e] at hc ⊢
     have hi := hc i (by simp)
     have hj := hc j (by simp)
     simp [cr_D, dv_l, dv_m, pr_D, hn_d4, hn_d3, hn_d2, ek _ i hi, ek _ j hj]
     simp [pr_M] <;> grind)
  · (obtain ⟨i, e⟩ := k2 (by omega)
     rw [e] at hc ⊢
     have hi := hc i (by simp)
     simp [cr_D, dv_l, dv_m, pr_D, hn_d4, hn_d3, hn_d2, ek _ i hi]
     simp [pr_M])
  · (obtain ⟨i, j, e⟩ := k3 (by omega)
     rw [e] at hc ⊢
     have hi := hc i (by simp)
     have hj := hc j (by simp)
     simp [cr_D, dv_l, dv_m, pr_D, hn_d4, hn_d3, hn_d2, ek _ i hi, ek _ j hj]
     simp [pr_M] <;> grind)
  · (obtain ⟨i, j, e⟩ := k3 (by omega)
     rw [e] at hc ⊢
     have hi := hc i (by simp)
     have hj := hc j (by simp)
     simp [cr_D, dv_l, dv_m, pr_D, hn_d4, hn_d3, hn_d2, ek _ i hi, ek _ j hj]
     simp [pr_M] <;> grind)
  · (obtain ⟨i, j, k, e⟩ := k4 (by omega)
     rw [e] at hc ⊢
     have hi := hc i (by simp)
     have hj := hc j (by simp)
     have hk := hc k (by simp)
     simp [cr_D, dv_l, dv_m, pr_D, hn_d4, hn_d3, hn_d2, ek _ i hi, ek _ j hj, ek _ k hk]
     simp [pr_M] <;> grind)
  · (obtain ⟨i, e⟩ := k2 (by omega)
     rw [e] at hc ⊢
     have hi := hc i (by simp)
     simp [cr_D, dv_l, dv_m, pr_D, hn_d4, hn_d3, hn_d2, ek _ i hi]
     simp [pr_M])
  · (obtain ⟨i, j, e⟩ := k3 (by omega)
     rw [e] at hc ⊢
     have hi := hc i (by simp)
     have hj := hc j (by simp)
     simp [cr_D, dv_l, dv_m, pr_D, hn_d4, hn_d3, hn_d2, ek _ i hi, ek _ j hj]
     simp [pr_M] <;> grind)
  · (obtain ⟨i, j, e⟩ := k3 (by omega)
     rw [e] at hc ⊢
     have hi := hc i (by simp)
     have hj := hc j (by simp)
     simp [cr_D, dv_l, dv_m, pr_D, hn_d4, hn_d3, hn_d2, ek _ i hi, ek _ j hj]
     simp [pr_M] <;> grind)
  · (obtain ⟨i, j, k, e⟩ := k4 (by omega)
     rw [e] at hc ⊢
     have hi := hc i (by simp)
     have hj := hc j (by simp)
     have hk := hc k (by simp)
     simp [cr_D, dv_l, dv_m, pr_D, hn_d4, hn_d3, hn_d2, ek _ i hi, ek _ j hj, ek _ k hk]
     simp [pr_M] <;> grind)
  · (obtain ⟨i, j, e⟩ := k3 (by omega)
     rw [e] at hc ⊢
     have hi := hc i (by simp)
     have hj := hc j (by simp)
     simp [cr_D, dv_l, dv_m, pr_D, hn_d4, hn_d3, hn_d2, ek _ i hi, ek _ j hj]
     simp [pr_M] <;> grind)
  · (obtain ⟨i, j, k, e⟩ := k4 (by omega)
     rw [e] at hc ⊢
     have hi := hc i (by simp)
     have hj := hc j (by simp)
     have hk := hc k (by simp)
     simp [cr_D, dv_l, dv_m, pr_D, hn_d4, hn_d3, hn_d2, ek _ i hi, ek _ j hj, ek _ k hk]
     simp [pr_M] <;> grind)
  · (obtain ⟨i, j, k, e⟩ := k4 (by omega)
     rw [e] at hc ⊢
     have hi := hc i (by simp)
     have hj := hc j (by simp)
     have hk := hc k (by simp)
     simp [cr_D, dv_l, dv_m, pr_D, hn_d4, hn_d3, hn_d2, ek _ i hi, ek _ j hj, ek _ k hk]
     simp [pr_M] <;> grind)
  · (have e := k5 (by omega)
     rw [e]
     left
     simp [cr_D, dv_l, dv_m, pr_D, hn_d4, hn_d3, hn_d2, ek _ 0 (by omega), ek _ 1 (by omega), ek _ 2 (by omega), ek _ 3 (by omega)])
theorem hn_In_neg {n k : Nat} {B : Nat → Nat → Int} {v : Nat → Int} {x y : Int} (e : x.natAbs = y.natAbs) (h : hn_In n k B (fun j => x * v j)) : hn_In n k B (fun j => y * v j) := by
  rcases (show x = y ∨ x = -y by omega) with z | z
  · rw [← z]; exact h
  · exact hn_In_congr (hn_In_mul (-1) h) (fun j _ => by rw [z]; show y * v j = -1 * (-y * v j); grind)
/-- what a base of four rows with unit rows says of determinants: K's rows are 0 on the letters -/
def cr_Z (ρ : Nat) (p : Nat → Nat) (Z : Nat → Nat → Int) : Prop := ρ ≤ 4 ∧ hn_Base 8 4 p Z ∧ (∀ k, k < ρ → p k < 4) ∧ (∀ k, ρ ≤ k → k < 4 → 4 ≤ p k)
theorem cr_z {ρ : Nat} {p : Nat → Nat} {Z : Nat → Nat → Int} (h : cr_Z ρ p Z) {i j : Nat} (h1 : ρ ≤ i) (h2 : i < 4) (hj : j < 4) : Z i j = 0 := h.2.1.2.2.1 i j h2 (by have := h.2.2.2 i h1 h2; omega)
theorem cr_can {t x y : Int} (ht : t ≠ 0) (h : t * x = t * y) : x = y := Int.eq_of_mul_eq_mul_left ht h
theorem cr_s1 (f : Nat → Int) : hn_sum 1 f = f 0 := by simp [hn_sum]
theorem cr_s2 (f : Nat → Int) : hn_sum 2 f = f 0 + f 1 := by simp [hn_sum]
theorem cr_s3 (f : Nat → Int) : hn_sum 3 f = f 0 + f 1 + f 2 := by simp [hn_sum]
theorem cr_s4 (f : Nat → Int) : hn_sum 4 f = f 0 + f 1 + f 2 + f 3 := by simp [hn_sum]
/-- Cramer: a determinant of the base, times what is a fraction of a sum of its rows, is a sum of its rows -/
theorem cr_1 {Z : Nat → Nat → Int} {v : Nat → Int} {t : Int} (ht : t ≠ 0) (h : hn_In 4 1 Z (fun j => t * v j)) {a : Nat} (ha : a < 4) : hn_In 4 1 Z (fun j => Z 0 a * v j) := by
  obtain ⟨c, hc⟩ := h
  have e : ∀ j, j < 4 → t * v j = c 0 * Z 0 j := fun j hj => by have := hc j hj; rw [cr_s1] at this; exact this
  refine ⟨fun _ => v a, fun j hj => ?_⟩
  rw [cr_s1]
  refine cr_can ht ?_
  have x := e a ha; have y := e j hj
  show t * (Z 0 a * v j) = t * (v a * Z 0 j)
  grind
theorem cr_2 {Z : Nat → Nat → Int} {v : Nat → Int} {t : Int} (ht : t ≠ 0) (h : hn_In 4 2 Z (fun j => t * v j)) {a b : Nat} (ha : a < 4) (hb : b < 4) : hn_In 4 2 Z (fun j => hn_d2 (Z 0) (Z 1) a b * v j) := by
  obtain ⟨c, hc⟩ := h
  have e : ∀ j, j < 4 → t * v j = c 0 * Z 0 j + c 1 * Z 1 j := fun j hj => by have := hc j hj; rw [cr_s2] at this; exact this
  have m0 : t * hn_d2 v (Z 1) a b = c 0 * hn_d2 (Z 0) (Z 1) a b := by
    have x := e a ha; have y := e b hb
    unfold hn_d2; grind
  have m1 : t * hn_d2 (Z 0) v a b = c 1 * hn_d2 (Z 0) (Z 1) a b := by
    have x := e a ha; have y := e b hb
    unfold hn_d2; grind
  refine ⟨fun i => if i = 0 then hn_d2 v (Z 1) a b else hn_d2 (Z 0) v a b, fun j hj => ?_⟩
  rw [cr_s2]
  refine cr_can ht ?_
  have y := e j hj
  show t * (hn_d2 (Z 0) (Z 1) a b * v j) = t * (hn_d2 v (Z 1) a b * Z 0 j + hn_d2 (Z 0) v a b * Z 1 j)
  generalize hn_d2 v (Z 1) a b = A0 at *
  generalize hn_d2 (Z 0) v a b = A1 at *
  generalize hn_d2 (Z 0) (Z 1) a b = D at *
  grind
/-- a determinant is linear in each row, and 0 with a row twice -/
theorem cr_l3 (u v w x : Nat → Int) (t c0 c1 c2 : Int) {a b c : Nat} (ha : t * x a = c0 * u a + c1 * v a + c2 * w a) (hb : t * x b = c0 * u b + c1 * v b + c2 * w b) (hc : t * x c = c0 * u c + c1 * v c + c2 * w c) : t * hn_d3 x v w a b c = c0 * hn_d3 u v w a b c := by
  have e : t * hn_d3 x v w a b c = (t * x a) * hn_d2 v w b c - (t * x b) * hn_d2 v w a c + (t * x c) * hn_d2 v w a b := by unfold hn_d3; grind
  rw [e, ha, hb, hc]
  unfold hn_d3 hn_d2; grind
theorem cr_sw3 (u v w : Nat → Int) (a b c : Nat) : hn_d3 v u w a b c = -hn_d3 u v w a b c := by unfold hn_d3 hn_d2; grind
theorem cr_sx3 (u v w : Nat → Int) (a b c : Nat) : hn_d3 w v u a b c = -hn_d3 u v w a b c := by unfold hn_d3 hn_d2; grind
theorem cr_3 {Z : Nat → Nat → Int} {v : Nat → Int} {t : Int} (ht : t ≠ 0) (h : hn_In 4 3 Z (fun j => t * v j)) {a b c : Nat} (ha : a < 4) (hb : b < 4) (hc : c < 4) : hn_In 4 3 Z (fun j => hn_d3 (Z 0) (Z 1) (Z 2) a b c * v j) := by
  obtain ⟨k, hk⟩ := h
  have e : ∀ j, j < 4 → t * v j = k 0 * Z 0 j + k 1 * Z 1 j + k 2 * Z 2 j := fun j hj => by have := hk j hj; rw [cr_s3] at this; exact this
  have m0 := cr_l3 (Z 0) (Z 1) (Z 2) v t (k 0) (k 1) (k 2) (e a ha) (e b hb) (e c hc)
  have e1 : ∀ j, j < 4 → t * v j = k 1 * Z 1 j + k 0 * Z 0 j + k 2 * Z 2 j := fun j hj => by have := e j hj; omega
  have e2 : ∀ j, j < 4 → t * v j = k 2 * Z 2 j + k 1 * Z 1 j + k 0 * Z 0 j := fun j hj => by have := e j hj; omega
  have m1 := cr_l3 (Z 1) (Z 0) (Z 2) v t (k 1) (k 0) (k 2) (e1 a ha) (e1 b hb) (e1 c hc)
  have m2 := cr_l3 (Z 2) (Z 1) (Z 0) v t (k 2) (k 1) (k 0) (e2 a ha) (e2 b hb) (e2 c hc)
  rw [cr_sw3 (Z 0) (Z 1) (Z 2)] at m1
  rw [cr_sx3 (Z 0) (Z 1) (Z 2)] at m2
  refine ⟨fun i => if i = 0 then hn_d3 v (Z 1) (Z 2) a b c else if i = 1 then -hn_d3 v (Z 0) (Z 2) a b c else -hn_d3 v (Z 1) (Z 0) a b c, fun j hj => ?_⟩
  rw [cr_s3]
  refine cr_can ht ?_
  have y := e j hj
  show t * (hn_d3 (Z 0) (Z 1) (Z 2) a b c * v j) = t * (hn_d3 v (Z 1) (Z 2) a b c * Z 0 j + -hn_d3 v (Z 0) (Z 2) a b c * Z 1 j + -hn_d3 v (Z 1) (Z 0) a b c * Z 2 j)
  generalize hn_d3 v (Z 1) (Z 2) a b c = A0 at *
  generalize hn_d3 v (Z 0) (Z 2) a b c = A1 at *
  generalize hn_d3 v (Z 1) (Z 0) a b c = A2 at *
  generalize hn_d3 (Z 0) (Z 1) (Z 2) a b c = D at *
  grind
theorem cr_l4 (u v w y x : Nat → Int) (t c0 c1 c2 c3 : Int) {a b c d : Nat} (ha : t * x a = c0 * u a + c1 * v a + c2 * w a + c3 * y a) (hb : t * x b = c0 * u b + c1 * v b + c2 * w b + c3 * y b) (hc : t * x c = c0 * u c + c1 * v c + c2 * w c + c3 * y c) (hd : t * x d = c0 * u d + c1 * v d + c2 * w d + c3 * y d) : t * hn_d4 x v w y a b c d = c0 * hn_d4 u v w y a b c d := by
  have e : t * hn_d4 x v w y a b c d = (t * x a) * hn_d3 v w y b c d - (t * x b) * hn_d3 v w y a c d + (t * x c) * hn_d3 v w y a b d - (t * x d) * hn_d3 v w y a b c := by unfold hn_d4; grind
  rw [e, ha, hb, hc, hd]
  unfold hn_d4 hn_d3 hn_d2; grind
theorem cr_sw4 (u v w y : Nat → Int) (a b c d : Nat) : hn_d4 v u w y a b c d = -hn_d4 u v w y a b c d := hn_d4_sw01 u v w y a b c d
theorem cr_sx4 (u v w y : Nat → Int) (a b c d : Nat) : hn_d4 w v u y a b c d = -hn_d4 u v w y a b c d := by unfold hn_d4 hn_d3 hn_d2; grind
theorem cr_sy4 (u v w y : Nat → Int) (a b c d : Nat) : hn_d4 y v w u a b c d = -hn_d4 u v w y a b c d := by unfold hn_d4 hn_d3 hn_d2; grind
theorem cr_4 {Z : Nat → Nat → Int} {v : Nat → Int} {t : Int} (ht : t ≠ 0) (h : hn_In 4 4 Z (fun j => t * v j)) {a b c d : Nat} (ha : a < 4) (hb : b < 4) (hc : c < 4) (hd : d < 4) : hn_In 4 4 Z (fun j => hn_d4 (Z 0) (Z 1) (Z 2) (Z 3) a b c d * v j) := by
  obtain ⟨k, hk⟩ := h
  have e : ∀ j, j < 4 → t * v j = k 0 * Z 0 j + k 1 * Z 1 j + k 2 * Z 2 j + k 3 * Z 3 j := fun j hj => by have := hk j hj; rw [cr_s4] at this; exact this
  have e1 : ∀ j, j < 4 → t * v j = k 1 * Z 1 j + k 0 * Z 0 j + k 2 * Z 2 j + k 3 * Z 3 j := fun j hj => by have := e j hj; omega
  have e2 : ∀ j, j < 4 → t * v j = k 2 * Z 2 j + k 1 * Z 1 j + k 0 * Z 0 j + k 3 * Z 3 j := fun j hj => by have := e j hj; omega
  have e3 : ∀ j, j < 4 → t * v j = k 3 * Z 3 j + k 1 * Z 1 j + k 2 * Z 2 j + k 0 * Z 0 j := fun j hj => by have := e j hj; omega
  have m0 := cr_l4 (Z 0) (Z 1) (Z 2) (Z 3) v t (k 0) (k 1) (k 2) (k 3) (e a ha) (e b hb) (e c hc) (e d hd)
  have m1 := cr_l4 (Z 1) (Z 0) (Z 2) (Z 3) v t (k 1) (k 0) (k 2) (k 3) (e1 a ha) (e1 b hb) (e1 c hc) (e1 d hd)
  have m2 := cr_l4 (Z 2) (Z 1) (Z 0) (Z 3) v t (k 2) (k 1) (k 0) (k 3) (e2 a ha) (e2 b hb) (e2 c hc) (e2 d hd)
  have m3 := cr_l4 (Z 3) (Z 1) (Z 2) (Z 0) v t (k 3) (k 1) (k 2) (k 0) (e3 a ha) (e3 b hb) (e3 c hc) (e3 d hd)
  rw [cr_sw4 (Z 0) (Z 1) (Z 2) (Z 3)] at m1
  rw [cr_sx4 (Z 0) (Z 1) (Z 2) (Z 3)] at m2
  rw [cr_sy4 (Z 0) (Z 1) (Z 2) (Z 3)] at m3
  refine ⟨fun i => if i = 0 then hn_d4 v (Z 1) (Z 2) (Z 3) a b c d else if i = 1 then -hn_d4 v (Z 0) (Z 2) (Z 3) a b c d else if i = 2 then -hn_d4 v (Z 1) (Z 0) (Z 3) a b c d else -hn_d4 v (Z 1) (Z 2) (Z 0) a b c d, fun j hj => ?_⟩
  rw [cr_s4]
  refine cr_can ht ?_
  have y := e j hj
  show t * (hn_d4 (Z 0) (Z 1) (Z 2) (Z 3) a b c d * v j) = t * (hn_d4 v (Z 1) (Z 2) (Z 3) a b c d * Z 0 j + -hn_d4 v (Z 0) (Z 2) (Z 3) a b c d * Z 1 j + -hn_d4 v (Z 1) (Z 0) (Z 3) a b c d * Z 2 j + -hn_d4 v (Z 1) (Z 2) (Z 0) a b c d * Z 3 j)
  generalize hn_d4 v (Z 1) (Z 2) (Z 3) a b c d = A0 at *
  generalize hn_d4 v (Z 0) (Z 2) (Z 3) a b c d = A1 at *
  generalize hn_d4 v (Z 1) (Z 0) (Z 3) a b c d = A2 at *
  generalize hn_d4 v (Z 1) (Z 2) (Z 0) a b c d = A3 at *
  generalize hn_d4 (Z 0) (Z 1) (Z 2) (Z 3) a b c d = D at *
  grind
