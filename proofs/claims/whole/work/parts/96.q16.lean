/-! Common divisors of determinants: not 0 up to the rank, and what they bring into the group. -/
theorem cr_got {n0 ρ : Nat} {ex : Nat → Int32} {p : Nat → Nat} {B : Nat → Nat → Int} (hok : st_ok n0 ex) (hG : hn_Grp 4 n0 (st_X n0 ex) ρ p B) : ∃ pM ZM, cr_Z ρ pM ZM ∧ pr_Det (pr_M 4 (st_X n0 ex)) ZM ∧ ∀ i j, i < ρ → j < 4 → B i j = ZM i j := by
  have hn := hok.1
  have hM : pr_Mat 4 (pr_M 4 (st_X n0 ex)) := pr_MatA (by omega) (fun i j _ hj => st_ok5 hok i hj)
  obtain ⟨pM, ZM, hGM⟩ := gx_got hM 4 (Nat.le_refl _)
  obtain ⟨im, i1, i2, i3⟩ := gx_im 4 hGM.1.2.1
  have g2 := pr_grp (n := 8) (h := 4) rfl (by omega) hGM i1 i2 i3
  have g2' : hn_Grp 4 4 (st_X n0 ex) im pM ZM := ⟨g2.1, fun i hi => hn_In_rows (g2.2.1 i hi) (fun l j _ hj => by simp [pr_M, hj]), fun i hi => hn_In_congr (g2.2.2 i hi) (fun j hj => by simp [pr_M, hj])⟩
  have up : ∀ d, n0 + d ≤ 4 → ∀ v, hn_In 4 n0 (st_X n0 ex) v → hn_In 4 (n0 + d) (st_X n0 ex) v := by
    intro d
    induction d with
    | zero => intro _ v h; exact h
    | succ d ih => intro hd v h; exact hn_In_up (ih (by omega) v h)
  have g4 : hn_Grp 4 4 (st_X n0 ex) ρ p B := by
    refine ⟨hG.1, fun i hi => ?_, fun i hi => ?_⟩
    · have := up (4 - n0) (by omega) _ (hG.2.1 i hi)
      rw [show n0 + (4 - n0) = 4 by omega] at this
      exact this
    · rcases Nat.lt_or_ge i n0 with z | z
      · exact hG.2.2 i z
      · exact hn_In_congr hn_In_zero (fun j _ => by rw [st_X, if_neg (by omega)])
  obtain ⟨u1, u2⟩ := hn_Grp_one g4 g2'
  subst u1
  exact ⟨pM, ZM, ⟨i1, hGM.1, i2, i3⟩, hGM.2.2.2, fun i j hi hj => (u2 i hi).2 j hj⟩
theorem cr_DD {M Z : Nat → Nat → Int} (h : pr_Det M Z) (l : List Nat) : (cr_D M l).natAbs = (cr_D Z l).natAbs := by
  unfold cr_D
  split
  · exact (h _ _ _ _).symm
  · rfl
theorem cr_pcs : ∀ S, S < 16 → dv_pc (15 - S) = 4 - dv_pc S := by decide
set_option maxHeartbeats 1000000 in
theorem cr_all {n0 ρ : Nat} {ex : Nat → Int32} {p : Nat → Nat} {B : Nat → Nat → Int} (hok : st_ok n0 ex) (hG : hn_Grp 4 n0 (st_X n0 ex) ρ p B) {v : Nat → Int} {t : Int} (ht : t ≠ 0) (hv : hn_In 4 ρ B (fun j => t * v j)) {S T : Nat} (hS : S < 16) (hT : T < 16) (pS : dv_pc S = ρ) (pT : dv_pc T = ρ) :
    hn_In 4 ρ B (fun j => dv (st_X n0 ex) S T * v j) := by
  obtain ⟨pM, Z, hZ, hD, hB⟩ := cr_got hok hG
  have hv' : hn_In 4 ρ Z (fun j => t * v j) := hn_In_rows hv hB
  have e1 := cr_DM (st_X n0 ex) hT S hS (by omega)
  rw [cr_DD hD] at e1
  have lT := dv_len T hT
  have lU := dv_len (15 - S) (by omega)
  have pU := cr_pcs S hS
  have cols : ∀ C, C < 16 → ∀ a, a ∈ dv_l C → a < 4 := by decide
  have hc := cols T hT
  have main : ∀ d κ : Int, cr_D Z (dv_l T ++ (dv_l (15 - S)).map (fun j => 4 + j)) = d * κ → hn_In 4 ρ Z (fun j => d * v j) → hn_In 4 ρ B (fun j => dv (st_X n0 ex) S T * v j) := by
    intro d κ hd hi
    rw [hd] at e1
    have a : hn_In 4 ρ Z (fun j => (d * κ) * v j) := hn_In_congr (hn_In_mul κ hi) (fun j _ => by show d * κ * v j = κ * (d * v j); grind)
    exact hn_In_rows (hn_In_neg e1 a) (fun i j hi hj => (hB i j hi hj).symm)
  have hr := hZ.1
  rcases (show ρ = 0 ∨ ρ = 1 ∨ ρ = 2 ∨ ρ = 3 ∨ ρ = 4 by omega) with rfl | rfl | rfl | rfl | rfl
  · obtain ⟨c, hcv⟩ := hv
    refine hn_In_congr hn_In_zero (fun j hj => ?_)
    have := hcv j hj
    have z : t * v j = 0 := this
    rcases Int.mul_eq_zero.mp z with q | q
    · exact absurd q ht
    · show _ * v j = 0; rw [q, Int.mul_zero]
  · obtain ⟨a, ea⟩ := dv_len1 (show (dv_l T).length = 1 by omega)
    obtain ⟨j, k, l, eu⟩ := dv_len3 (show (dv_l (15 - S)).length = 3 by omega)
    have ha := hc a (by rw [ea]; simp)
    refine main (Z 0 a) (hn_d3 (Z 1) (Z 2) (Z 3) (4 + j) (4 + k) (4 + l)) ?_ (cr_1 ht hv' ha)
    rw [ea, eu]
    simp [cr_D, pr_D, hn_d4, hn_d3, hn_d2, cr_z hZ (i := 1) (j := a) (by omega) (by omega) ha, cr_z hZ (i := 2) (j := a) (by omega) (by omega) ha, cr_z hZ (i := 3) (j := a) (by omega) (by omega) ha]
  · obtain ⟨a, b, ea⟩ := dv_len2 (show (dv_l T).length = 2 by omega)
    obtain ⟨j, k, eu⟩ := dv_len2 (show (dv_l (15 - S)).length = 2 by omega)
    have ha := hc a (by rw [ea]; simp)
    have hb := hc b (by rw [ea]; simp)
    refine main (hn_d2 (Z 0) (Z 1) a b) (hn_d2 (Z 2) (Z 3) (4 + j) (4 + k)) ?_ (cr_2 ht hv' ha hb)
    rw [ea, eu]
    simp [cr_D, pr_D, hn_d4, hn_d3, hn_d2, cr_z hZ (i := 2) (j := a) (by omega) (by omega) ha, cr_z hZ (i := 3) (j := a) (by omega) (by omega) ha, cr_z hZ (i := 2) (j := b) (by omega) (by omega) hb, cr_z hZ (i := 3) (j := b) (by omega) (by omega) hb]
    grind
  · obtain ⟨a, b, c, ea⟩ := dv_len3 (show (dv_l T).length = 3 by omega)
    obtain ⟨j, eu⟩ := dv_len1 (show (dv_l (15 - S)).length = 1 by omega)
    have ha := hc a (by rw [ea]; simp)
    have hb := hc b (by rw [ea]; simp)
    have hc' := hc c (by rw [ea]; simp)
    refine main (hn_d3 (Z 0) (Z 1) (Z 2) a b c) (Z 3 (4 + j)) ?_ (cr_3 ht hv' ha hb hc')
    rw [ea, eu]
    simp [cr_D, pr_D, hn_d4, hn_d3, hn_d2, cr_z hZ (i := 3) (j := a) (by omega) (by omega) ha, cr_z hZ (i := 3) (j := b) (by omega) (by omega) hb, cr_z hZ (i := 3) (j := c) (by omega) (by omega) hc']
    grind
  · have k50 : ∀ T, T < 16 → dv_pc T = 4 → dv_l T = [0, 1, 2, 3] := by decide
    have ea := k50 T hT pT
    have eu := dv_len0 (show (dv_l (15 - S)).length = 0 by omega)
    refine main (hn_d4 (Z 0) (Z 1) (Z 2) (Z 3) 0 1 2 3) 1 ?_ (cr_4 ht hv' (by omega) (by omega) (by omega) (by omega))
    rw [ea, eu, Int.mul_one]
    rfl
theorem cr_l1 : ∀ a, a < 4 → dv_l (2 ^ a) = [a] ∧ 2 ^ a < 16 := by decide
theorem cr_l2 : ∀ a, a < 4 → ∀ b, b < 4 → a < b → dv_l (2 ^ a + 2 ^ b) = [a, b] ∧ 2 ^ a + 2 ^ b < 16 := by decide
theorem cr_l3' (a : Nat) (_ : a < 4) (b : Nat) (_ : b < 4) (c : Nat) (hc : c < 4) (h1 : a < b) (h2 : b < c) : dv_l (2 ^ a + 2 ^ b + 2 ^ c) = [a, b, c] ∧ 2 ^ a + 2 ^ b + 2 ^ c < 16 := by
  rcases (show (a = 0 ∧ b = 1 ∧ c = 2) ∨ (a = 0 ∧ b = 1 ∧ c = 3) ∨ (a = 0 ∧ b = 2 ∧ c = 3) ∨ (a = 1 ∧ b = 2 ∧ c = 3) by omega) with ⟨rfl, rfl, rfl⟩ | ⟨rfl, rfl, rfl⟩ | ⟨rfl, rfl, rfl⟩ | ⟨rfl, rfl, rfl⟩ <;> decide
theorem cr_nz {n0 ρ : Nat} {ex : Nat → Int32} {p : Nat → Nat} {B : Nat → Nat → Int} (hok : st_ok n0 ex) (hG : hn_Grp 4 n0 (st_X n0 ex) ρ p B) : ∃ S T, S < 16 ∧ T < 16 ∧ dv_pc S = ρ ∧ dv_pc T = ρ ∧ dv (st_X n0 ex) S T ≠ 0 := by
  obtain ⟨q, Z, hZ, hD, -⟩ := cr_got hok hG
  obtain ⟨hr, hB, lo, hi⟩ := hZ
  have a0 := hB.2.2.2.1 0 (by omega); have a1 := hB.2.2.2.1 1 (by omega); have a2 := hB.2.2.2.1 2 (by omega); have a3 := hB.2.2.2.1 3 (by omega)
  have b0 := hB.1 0 (by omega); have b1 := hB.1 1 (by omega); have b2 := hB.1 2 (by omega); have b3 := hB.1 3 (by omega)
  have p01 := hB.2.1 0 1 (by omega) (by omega); have p12 := hB.2.1 1 2 (by omega) (by omega); have p23 := hB.2.1 2 3 (by omega) (by omega)
  have q10 : Z 1 (q 0) = 0 := hB.2.2.1 1 (q 0) (by omega) p01
  have q20 : Z 2 (q 0) = 0 := hB.2.2.1 2 (q 0) (by omega) (by omega)
  have q30 : Z 3 (q 0) = 0 := hB.2.2.1 3 (q 0) (by omega) (by omega)
  have q21 : Z 2 (q 1) = 0 := hB.2.2.1 2 (q 1) (by omega) p12
  have q31 : Z 3 (q 1) = 0 := hB.2.2.1 3 (q 1) (by omega) (by omega)
  have q32 : Z 3 (q 2) = 0 := hB.2.2.1 3 (q 2) (by omega) (by omega)
  have hne : cr_D Z [q 0, q 1, q 2, q 3] ≠ 0 := by
    have e : cr_D Z [q 0, q 1, q 2, q 3] = Z 0 (q 0) * (Z 1 (q 1) * (Z 2 (q 2) * Z 3 (q 3))) := by
      simp [cr_D, pr_D, hn_d4, hn_d3, hn_d2, q10, q20, q30, q21, q31, q32]
    rw [e]
    have := Int.mul_pos a0 (Int.mul_pos a1 (Int.mul_pos a2 a3))
    omega
  have main : ∀ T U, T < 16 → U < 16 → dv_l T ++ (dv_l U).map (fun j => 4 + j) = [q 0, q 1, q 2, q 3] → (dv_l T).length = ρ → (dv_l U).length = 4 - ρ → ∃ S T, S < 16 ∧ T < 16 ∧ dv_pc S = ρ ∧ dv_pc T = ρ ∧ dv (st_X n0 ex) S T ≠ 0 := by
    intro T U hT hU e lT lU
    have pT := dv_len T hT
    have pU := dv_len U hU
    have pS := cr_pcs U hU
    refine ⟨15 - U, T, by omega, hT, by omega, by omega, fun z => hne ?_⟩
    have e1 := cr_DM (st_X n0 ex) hT (15 - U) (by omega) (by omega)
    rw [cr_DD hD, show 15 - (15 - U) = U by omega, e, z] at e1
    have : (0 : Int).natAbs = 0 := rfl
    omega
  rcases (show ρ = 0 ∨ ρ = 1 ∨ ρ = 2 ∨ ρ = 3 ∨ ρ = 4 by omega) with rfl | rfl | rfl | rfl | rfl
  · have h0 := hi 0 (by omega) (by omega)
    have s0 : q 0 = 4 := by omega
    have s1 : q 1 = 5 := by omega
    have s2 : q 2 = 6 := by omega
    have s3 : q 3 = 7 := by omega
    refine main 0 15 (by omega) (by omega) ?_ rfl rfl
    rw [s0, s1, s2, s3]; rfl
  · have h1 := lo 0 (by omega); have h2 := hi 1 (by omega) (by omega)
    obtain ⟨x1, x2⟩ := cr_l1 (q 0) h1
    obtain ⟨y1, y2⟩ := cr_l3' (q 1 - 4) (by omega) (q 2 - 4) (by omega) (q 3 - 4) (by omega) (by omega) (by omega)
    refine main _ _ x2 y2 ?_ (by rw [x1]; rfl) (by rw [y1]; rfl)
    rw [x1, y1]
    simp; omega
  · have h1 := lo 0 (by omega); have h2 := lo 1 (by omega); have h3 := hi 2 (by omega) (by omega)
    obtain ⟨x1, x2⟩ := cr_l2 (q 0) h1 (q 1) h2 p01
    obtain ⟨y1, y2⟩ := cr_l2 (q 2 - 4) (by omega) (q 3 - 4) (by omega) (by omega)
    refine main _ _ x2 y2 ?_ (by rw [x1]; rfl) (by rw [y1]; rfl)
    rw [x1, y1]
    simp; omega
  · have h1 := lo 0 (by omega); have h2 := lo 1 (by omega); have h3 := lo 2 (by omega); have h4 := hi 3 (by omega) (by omega)
    obtain ⟨x1, x2⟩ := cr_l3' (q 0) h1 (q 1) h2 (q 2) h3 p01 p12
    obtain ⟨y1, y2⟩ := cr_l1 (q 3 - 4) (by omega)
    refine main _ _ x2 y2 ?_ (by rw [x1]; rfl) (by rw [y1]; rfl)
    rw [x1, y1]
    simp; omega
  · have h3 := lo 3 (by omega)
    have s0 : q 0 = 0 := by omega
    have s1 : q 1 = 1 := by omega
    have s2 : q 2 = 2 := by omega
    have s3 : q 3 = 3 := by omega
    refine main 15 0 (by omega) (by omega) ?_ rfl rfl
    rw [s0, s1, s2, s3]; rfl
/-- the fold -/
theorem dv_fold {A : Nat → Nat → Int} {s : Nat} {I : Nat → Prop} (h0 : I 0) (hg : ∀ a b, I a → I b → I (Nat.gcd a b)) (hd : ∀ R C, R < 16 → C < 16 → dv_pc R = s → dv_pc C = s → I (dv A R C).natAbs) : ∀ R, R ≤ 16 → I (dv_gr A s R) := by
  intro R
  induction R with
  | zero => intro _; exact h0
  | succ R ih =>
    intro hR
    rw [dv_gr]
    have h1 := ih (by omega)
    generalize dv_gr A s R = g at h1
    have key : ∀ C, C ≤ 16 → I (dv_gc A s R g C) := by
      intro C
      induction C with
      | zero => intro _; exact h1
      | succ C ih2 =>
        intro hC
        rw [dv_gc]
        split
        · rename_i q
          exact hg _ _ (ih2 (by omega)) (hd R C (by omega) (by omega) q.1 q.2)
        · exact ih2 (by omega)
    exact key 16 (Nat.le_refl _)
theorem dv_gc0 {A : Nat → Nat → Int} {s R g : Nat} : ∀ N, dv_gc A s R g N = 0 → g = 0 ∧ ∀ C, C < N → dv_pc R = s → dv_pc C = s → dv A R C = 0 := by
  intro N
  induction N with
  | zero => intro h; exact ⟨h, fun C hC => by omega⟩
  | succ N ih =>
    intro h
    rw [dv_gc] at h
    split at h
    · rename_i q
      obtain ⟨x, y⟩ := Nat.gcd_eq_zero_iff.mp h
      obtain ⟨i1, i2⟩ := ih x
      refine ⟨i1, fun C hC a b => ?_⟩
      rcases Nat.eq_or_lt_of_le (Nat.le_of_lt_succ hC) with z | z
      · rw [z]; omega
      · exact i2 C z a b
    · rename_i q
      obtain ⟨i1, i2⟩ := ih h
      refine ⟨i1, fun C hC a b => ?_⟩
      rcases Nat.eq_or_lt_of_le (Nat.le_of_lt_succ hC) with z | z
      · rw [z] at b; exact absurd ⟨a, b⟩ q
      · exact i2 C z a b
theorem dv_gr0 {A : Nat → Nat → Int} {s : Nat} : ∀ N, dv_gr A s N = 0 → ∀ R C, R < N → C < 16 → dv_pc R = s → dv_pc C = s → dv A R C = 0 := by
  intro N
  induction N with
  | zero => intro _ R C hR; omega
  | succ N ih =>
    intro h R C hR hC a b
    rw [dv_gr] at h
    obtain ⟨i1, i2⟩ := dv_gc0 16 h
    rcases Nat.eq_or_lt_of_le (Nat.le_of_lt_succ hR) with z | z
    · rw [z] at a ⊢; exact i2 C hC a b
    · exact ih i1 R C z hC a b
theorem dv_uz (C : Nat) (f g : Nat → Int) (h : ∀ l, l < 4 → C / 2 ^ l % 2 = 1 → g l = 0) : ∀ d, d ≤ 4 → (dv_up C f g d).1 = 0 := by
  intro d
  induction d with
  | zero => intro _; rfl
  | succ d ih =>
    intro hd
    rw [dv_up]
    split
    · rename_i q
      show (dv_up C f g d).1 + (dv_up C f g d).2 * f d * g d = 0
      rw [ih (by omega), h d (by omega) q]; simp
    · exact ih (by omega)
def dv_low (R : Nat) : Nat := if R % 2 = 1 then 0 else if R / 2 % 2 = 1 then 1 else if R / 4 % 2 = 1 then 2 else 3
/-- if all determinants of a size are 0, those of the next are -/
theorem cr_next {A : Nat → Nat → Int} {k : Nat} (h : ∀ R C, R < 16 → C < 16 → dv_pc R = k → dv_pc C = k → dv A R C = 0) {R C : Nat} (hR : R < 16) (hC : C < 16) (pR : dv_pc R = k + 1) (pC : dv_pc C = k + 1) : dv A R C = 0 := by
  have l1 : ∀ R, R < 16 → 1 ≤ dv_pc R → dv_low R < 4 ∧ R / 2 ^ dv_low R % 2 = 1 ∧ R % 2 ^ dv_low R = 0 := by decide
  obtain ⟨n4, h1, h2⟩ := l1 R hR (by omega)
  obtain ⟨-, hp⟩ := dv_first R hR (dv_low R) n4 h1 h2
  have pp : ∀ C, C < 16 → ∀ l, l < 4 → C / 2 ^ l % 2 = 1 → dv_pc (C - 2 ^ l) + 1 = dv_pc C := by decide
  rw [← dv_ups A hR n4 h1 h2 C hC (by omega)]
  have hle := Nat.sub_le R (2 ^ dv_low R)
  refine dv_uz C _ _ (fun l hl hq => h _ _ (by omega) (by have := Nat.sub_le C (2 ^ l); omega) (by omega) (by have := pp C hC l hl hq; omega)) 4 (Nat.le_refl _)
theorem cr_pos {n0 ρ : Nat} {ex : Nat → Int32} {p : Nat → Nat} {B : Nat → Nat → Int} (hok : st_ok n0 ex) (hG : hn_Grp 4 n0 (st_X n0 ex) ρ p B) {k : Nat} (hk : k ≤ ρ) : 1 ≤ dv_gr (st_X n0 ex) k 16 := by
  rcases Nat.eq_zero_or_pos (dv_gr (st_X n0 ex) k 16) with z | z
  · exfalso
    have h0 := dv_gr0 16 z
    have all : ∀ d R C, R < 16 → C < 16 → dv_pc R = k + d → dv_pc C = k + d → dv (st_X n0 ex) R C = 0 := by
      intro d
      induction d with
      | zero => exact h0
      | succ d ih => intro R C hR hC a b; exact cr_next (k := k + d) ih hR hC a b
    obtain ⟨S, T, hS, hT, pS, pT, hne⟩ := cr_nz hok hG
    exact hne (all (ρ - k) S T hS hT (by omega) (by omega))
  · exact z
theorem cr_main {n0 ρ : Nat} {ex : Nat → Int32} {p : Nat → Nat} {B : Nat → Nat → Int} (hok : st_ok n0 ex) (hG : hn_Grp 4 n0 (st_X n0 ex) ρ p B) {v : Nat → Int} {t : Int} (ht : t ≠ 0) (hv : hn_In 4 ρ B (fun j => t * v j)) : hn_In 4 ρ B (fun j => ((dv_gr (st_X n0 ex) ρ 16 : Nat) : Int) * v j) := by
  refine dv_fold (I := fun s => hn_In 4 ρ B (fun j => (s : Int) * v j)) ?_ ?_ (fun R C hR hC pR pC => ?_) 16 (Nat.le_refl _)
  · exact hn_In_congr hn_In_zero (fun j _ => by show ((0 : Nat) : Int) * v j = 0; simp)
  · intro a b
    induction a, b using Nat.gcd.induction with
    | H0 b => intro _ h; rw [Nat.gcd_zero_left]; exact h
    | H1 a b ha ih =>
      intro h1 h2
      rw [Nat.gcd_rec]
      refine ih ?_ h1
      refine hn_In_congr (hn_In_sub h2 (hn_In_mul ((b / a : Nat) : Int) h1)) (fun j _ => ?_)
      have e : ((b % a : Nat) : Int) = (b : Int) - ((b / a : Nat) : Int) * (a : Int) := by
        have := Nat.div_add_mod' b a
        have e2 : ((b / a * a : Nat) : Int) = ((b / a : Nat) : Int) * (a : Int) := by simp
        omega
      show ((b % a : Nat) : Int) * v j = (b : Int) * v j - ((b / a : Nat) : Int) * ((a : Int) * v j)
      rw [e]; grind
  · exact hn_In_neg (x := dv (st_X n0 ex) R C) (by simp) (cr_all hok hG ht hv hR hC pR pC)
