/-! keepSmall: all rows ahead of a base row, and the newest, below its beginning there. -/
theorem pr_floor {a b : Int} (ha : pr_sm a) (hb : pr_sm b) (hp : 0 < b) {post : Int64 → Prop} (h : post (Int64.ofInt (a / b))) : wp_MA_floorDiv (Int64.ofInt a) (Int64.ofInt b) post := by
  have hb0 : ¬ Int64.ofInt b = 0 := fun e => by have := (pr_eq0 hb).mp e; omega
  refine ⟨hb0, fun v hv => ?_⟩
  rw [pr_tdiv ha hb] at hv
  have hq : pr_sm (a.tdiv b) := by
    unfold pr_sm at ha ⊢
    rw [Int.natAbs_tdiv]
    exact Nat.lt_of_le_of_lt (Nat.div_le_self _ _) ha
  have hm : (a.tdiv b * b).natAbs ≤ a.natAbs := by
    have := pr_absdiv a b
    rw [Int.natAbs_mul]; omega
  have hms : pr_sm (a.tdiv b * b) := Nat.lt_of_le_of_lt hm ha
  have hmul : Int64.ofInt (a.tdiv b) * Int64.ofInt b = Int64.ofInt (a.tdiv b * b) := (Int64.ofInt_mul _ _).symm
  have hcmp : lg_cmp (Int64.ofInt (a.tdiv b * b)) (Int64.ofInt a) = 0 ↔ a.tdiv b * b = a := by
    rw [lg_cmp_eq]
    constructor
    · intro e
      have := pr_toInt hms
      rw [e, pr_toInt ha] at this
      exact this.symm
    · intro e; rw [e]
  -- the sign of the xor
  have hx : 0 ≤ lg_cmp (Int64.ofInt a ^^^ Int64.ofInt b) 0 ↔ 0 ≤ a := by
    rw [lg_cmp_ge, Int64.le_iff_toInt_le]
    show (0 : Int) ≤ (Int64.ofInt a ^^^ Int64.ofInt b).toInt ↔ _
    have e1 : (Int64.ofInt a ^^^ Int64.ofInt b).toInt = ((Int64.ofInt a).toBitVec ^^^ (Int64.ofInt b).toBitVec).toInt := rfl
    have ma : (Int64.ofInt a).toBitVec.msb = decide (a < 0) := by
      rw [BitVec.msb_eq_toInt]
      show decide ((Int64.ofInt a).toInt < 0) = _
      rw [pr_toInt ha]
    have mb : (Int64.ofInt b).toBitVec.msb = false := by
      rw [BitVec.msb_eq_toInt]
      show decide ((Int64.ofInt b).toInt < 0) = _
      rw [pr_toInt hb]
      simp; omega
    have mx : ((Int64.ofInt a).toBitVec ^^^ (Int64.ofInt b).toBitVec).msb = decide (a < 0) := by
      rw [BitVec.msb_xor, ma, mb]; simp
    rw [e1]
    rw [BitVec.msb_eq_toInt] at mx
    have := decide_eq_decide.mp mx
    omega
  rw [hx, hv, hmul, hcmp]
  refine ⟨fun h0 => ?_, fun h0 => ⟨fun e => ?_, fun e => ?_⟩⟩
  · rw [Int.tdiv_eq_ediv_of_nonneg h0]; exact h
  · have : a / b = a.tdiv b := by
      rw [← e, Int.mul_ediv_cancel _ (by omega : b ≠ 0), e]
    rw [← this]; exact h
  · have e2 : Int64.ofInt (a.tdiv b) - 1 = Int64.ofInt (a.tdiv b - 1) := by rw [Int64.ofInt_sub]; rfl
    rw [e2]
    have : a / b = a.tdiv b - 1 := by
      have hr := pr_rest a b (by omega)
      have hs : (a - a.tdiv b * b) < 0 := by
        have ht := Int.tmod_add_mul_tdiv a b
        have hc : b * a.tdiv b = a.tdiv b * b := Int.mul_comm _ _
        have hneg : a.tmod b ≤ 0 := by
          have := Int.tmod_nonneg b (a := -a) (by omega)
          rw [Int.neg_tmod] at this
          omega
        have h9 : a - a.tdiv b * b = a.tmod b := by omega
        omega
      have e3 : a = b * (a.tdiv b - 1) + (a - a.tdiv b * b + b) := by grind
      have := (Int.ediv_emod_unique (a := a) (b := b) (r := a - a.tdiv b * b + b) (q := a.tdiv b - 1) (by omega)).mpr ⟨by omega, by omega, by omega⟩
      exact this.1
    rw [← this]; exact h
/-- what keepSmall does at the base row k -/
def pr_ks (Z : Nat → Nat → Int) (p : Nat → Nat) (b t k : Nat) : Nat → Nat → Int := fun i c => if i < k ∨ (b ≤ i ∧ i ≤ t) then Z i c - (Z i (p k) / Z k (p k)) * Z k c else Z i c
def pr_kS (Z : Nat → Nat → Int) (p : Nat → Nat) (b t : Nat) : Nat → Nat → Nat → Int
  | 0 => Z
  | k + 1 => pr_ks (pr_kS Z p b t k) p b t k
