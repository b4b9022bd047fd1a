/-! Greatest common divisors: the class's loop and the reference's. -/
theorem gd_mod {x y : Nat} (hx : x < 4611686018427387904) (hy : y < 4611686018427387904) (h0 : y ≠ 0) : Int64.ofInt (x : Int) - Int64.ofInt (x : Int) / Int64.ofInt (y : Int) * Int64.ofInt (y : Int) = Int64.ofInt ((x % y : Nat) : Int) := by
  have sx : pr_sm (x : Int) := by unfold pr_sm; omega
  have sy : pr_sm (y : Int) := by unfold pr_sm; omega
  rw [pr_tdiv sx sy, ← Int64.ofInt_mul, ← Int64.ofInt_sub]
  congr 1
  rw [Int.tdiv_eq_ediv_of_nonneg (by omega)]
  have := Nat.div_add_mod' x y
  have e : ((x / y : Nat) : Int) = (x : Int) / (y : Int) := by simp
  have e2 : (x : Int) / (y : Int) * (y : Int) = ((x / y * y : Nat) : Int) := by rw [← e]; simp
  rw [e2]
  omega
theorem gd_cmp {y : Nat} (hy : y < 4611686018427387904) : lg_cmp (Int64.ofInt (y : Int)) 0 = 0 ↔ y = 0 := by
  rw [pr_cmp0 (by unfold pr_sm; omega)]; omega
theorem gd_ne {y : Nat} (hy : y < 4611686018427387904) (h : y ≠ 0) : ¬ Int64.ofInt (y : Int) = 0 := by
  rw [pr_eq0 (by unfold pr_sm; omega)]; omega
theorem gd_half {x y f : Nat} (hy : 0 < y) (hyx : y ≤ x) (h : x * y < 2 ^ (f + 1)) : y * (x % y) < 2 ^ f := by
  have h1 := Nat.mod_lt x hy
  have h2 := Nat.div_add_mod' x y
  have h3 : 1 ≤ x / y := (Nat.le_div_iff_mul_le hy).mpr (by omega)
  have h4 : 1 * y ≤ x / y * y := Nat.mul_le_mul_right _ h3
  have h5 : 2 * (x % y) ≤ x := by omega
  have h6 : y * (2 * (x % y)) ≤ y * x := Nat.mul_le_mul_left _ h5
  have h7 : y * (2 * (x % y)) = 2 * (y * (x % y)) := by rw [Nat.mul_left_comm]
  have h8 : y * x = x * y := Nat.mul_comm _ _
  rw [Nat.pow_succ] at h
  omega
theorem gd_class {x y : Nat} {post : Int64 → Prop} (hx : x < 4611686018427387904) (hy : y < 4611686018427387904) (hp : post (Int64.ofInt ((Nat.gcd x y : Nat) : Int))) : wp_SR_commonDivisor_15 post (Int64.ofInt (x : Int)) (Int64.ofInt (y : Int)) 0 := by
  intro P hP
  have key : ∀ (f m x' y' : Nat), x' < 4611686018427387904 → y' ≤ x' → x' * y' < 2 ^ f → m + f ≤ 900 → Nat.gcd x' y' = Nat.gcd x y → P (Int64.ofInt (x' : Int)) (Int64.ofInt (y' : Int)) (nI m) := by
    intro f
    induction f with
    | zero =>
      intro m x' y' hx' hyx h hm hg
      have hy0 : y' = 0 := by
        rcases Nat.eq_zero_or_pos y' with z | z
        · exact z
        · have : 1 * 1 ≤ x' * y' := Nat.mul_le_mul (by omega) z
          simp at h; omega
      refine hP _ _ (nI m) ⟨fun q => ?_, fun _ => ?_⟩
      · rw [show (1000 : Int32) = nI 1000 from rfl, pz_le (by omega) (by omega)] at q; omega
      rw [gd_cmp (by omega)]
      refine ⟨fun _ => ?_, fun q => absurd hy0 q⟩
      rw [hy0, Nat.gcd_zero_right] at hg
      rw [hg]; exact hp
    | succ f ih =>
      intro m x' y' hx' hyx h hm hg
      refine hP _ _ (nI m) ⟨fun q => ?_, fun _ => ?_⟩
      · rw [show (1000 : Int32) = nI 1000 from rfl, pz_le (by omega) (by omega)] at q; omega
      rw [gd_cmp (by omega)]
      refine ⟨fun hy0 => ?_, fun q => ⟨gd_ne (by omega) q, fun v hv v2 hv2 => ?_⟩⟩
      · rw [hy0, Nat.gcd_zero_right] at hg
        rw [hg]; exact hp
      · rw [hv2, nI_1, hv, gd_mod hx' (by omega) q]
        have h1 := Nat.mod_lt x' (Nat.pos_of_ne_zero q)
        refine ih (m + 1) y' (x' % y') (by omega) (by omega) (gd_half (by omega) hyx h) (by omega) ?_
        rw [← hg, Nat.gcd_comm x' y', Nat.gcd_rec y' x', Nat.gcd_comm]
  have big : ∀ a b, a < 4611686018427387904 → b < 4611686018427387904 → a * b < 2 ^ 124 := by
    intro a b ha hb
    have : a * b ≤ 4611686018427387904 * b := Nat.mul_le_mul_right _ (by omega)
    have e : (2 : Nat) ^ 124 = 4611686018427387904 * 4611686018427387904 := by decide
    rw [e]
    omega
  rcases Nat.le_total y x with q | q
  · exact key 124 0 x y hx q (big x y hx hy) (by omega) rfl
  · by_cases h0 : y = 0
    · exact key 124 0 x y hx (by omega) (big x y hx hy) (by omega) rfl
    · refine hP _ _ (nI 0) ⟨fun w => ?_, fun _ => ?_⟩
      · rw [show (1000 : Int32) = nI 1000 from rfl, pz_le (by omega) (by omega)] at w; omega
      rw [gd_cmp hy]
      refine ⟨fun z => absurd z h0, fun _ => ⟨gd_ne hy h0, fun v hv v2 hv2 => ?_⟩⟩
      rw [hv2, nI_1, hv, gd_mod hx hy h0]
      have h1 := Nat.mod_lt x (Nat.pos_of_ne_zero h0)
      refine key 124 1 y (x % y) hy (by omega) (big y (x % y) hy (by omega)) (by omega) ?_
      rw [Nat.gcd_comm x y, Nat.gcd_rec y x, Nat.gcd_comm]
theorem gd_abs {z : Int} (hz : pr_sm z) {post : Int64 → Prop} (hp : post (Int64.ofInt (z.natAbs : Int))) : wp_MA_abs (Int64.ofInt z) post := by
  unfold wp_MA_abs
  rw [pr_cmpge hz]
  refine ⟨fun q => ?_, fun q => ?_⟩
  · rw [show (z.natAbs : Int) = z by omega] at hp; exact hp
  · rw [← Int64.ofInt_neg, show -z = (z.natAbs : Int) by omega]; exact hp
theorem gd_common {a b : Int} (ha : pr_sm a) (hb : pr_sm b) {post : Int64 → Prop} (hp : post (Int64.ofInt ((Nat.gcd a.natAbs b.natAbs : Nat) : Int))) : wp_SR_commonDivisor (Int64.ofInt a) (Int64.ofInt b) post :=
  gd_abs ha (gd_abs hb (gd_class ha hb hp))
theorem gd_ref {x y : Nat} {post : Int64 → Prop} (hx : x < 4611686018427387904) (hy : y < 4611686018427387904) (hp : post (Int64.ofInt ((Nat.gcd x y : Nat) : Int))) : wp_MD_divisor_28 post (Int64.ofInt (x : Int)) (Int64.ofInt (y : Int)) := by
  intro P hP
  have key : ∀ (d x' y' : Nat), y' ≤ d → x' < 4611686018427387904 → y' < 4611686018427387904 → Nat.gcd x' y' = Nat.gcd x y → P (Int64.ofInt (x' : Int)) (Int64.ofInt (y' : Int)) := by
    intro d
    induction d with
    | zero =>
      intro x' y' hd hx' hy' hg
      refine hP _ _ ?_
      unfold wp_MD_divisor_28b
      rw [gd_cmp hy']
      refine ⟨fun hy0 => ?_, fun q => absurd (by omega) q⟩
      rw [hy0, Nat.gcd_zero_right] at hg
      rw [hg]; exact hp
    | succ d ih =>
      intro x' y' hd hx' hy' hg
      refine hP _ _ ?_
      unfold wp_MD_divisor_28b
      rw [gd_cmp hy']
      refine ⟨fun hy0 => ?_, fun q => ⟨gd_ne hy' q, fun v hv => ?_⟩⟩
      · rw [hy0, Nat.gcd_zero_right] at hg
        rw [hg]; exact hp
      · rw [hv, gd_mod hx' hy' q]
        have h1 := Nat.mod_lt x' (Nat.pos_of_ne_zero q)
        refine ih y' (x' % y') (by omega) hy' (by omega) ?_
        rw [← hg, Nat.gcd_comm x' y', Nat.gcd_rec y' x', Nat.gcd_comm]
  exact key y x y (Nat.le_refl _) hx hy rfl
theorem gd_divisor {a b : Int} (ha : pr_sm a) (hb : pr_sm b) {post : Int64 → Prop} (hp : post (Int64.ofInt ((Nat.gcd a.natAbs b.natAbs : Nat) : Int))) : wp_MD_divisor (Int64.ofInt a) (Int64.ofInt b) post := by
  have h2 : ∀ x : Nat, x < 4611686018427387904 → Nat.gcd x b.natAbs = Nat.gcd a.natAbs b.natAbs → wp_MD_divisor_12 (Int64.ofInt b) post (Int64.ofInt (x : Int)) := by
    intro x hx hg
    unfold wp_MD_divisor_12
    rw [pr_cmpge hb]
    rw [← hg] at hp
    refine ⟨fun q => ?_, fun q => ?_⟩
    · have := gd_ref (post := post) (y := b.natAbs) hx hb hp
      rw [show (b.natAbs : Int) = b by omega] at this
      exact this
    · have := gd_ref (post := post) (y := b.natAbs) hx hb hp
      rw [← Int64.ofInt_neg, show -b = (b.natAbs : Int) by omega]
      exact this
  unfold wp_MD_divisor
  rw [pr_cmpge ha]
  refine ⟨fun q => ?_, fun q => ?_⟩
  · have := h2 a.natAbs ha rfl
    rw [show (a.natAbs : Int) = a by omega] at this
    exact this
  · rw [← Int64.ofInt_neg, show -a = (a.natAbs : Int) by omega]
    exact h2 a.natAbs ha rfl
