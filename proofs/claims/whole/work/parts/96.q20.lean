/-! The reference's search: times by times. -/
theorem fr_mod {z a : Int} (hz : pr_sm z) (ha : pr_sm a) : lg_cmp (Int64.ofInt z - Int64.ofInt z / Int64.ofInt a * Int64.ofInt a) 0 = 0 ↔ a ∣ z := by
  have e : z - z.tdiv a * a = z.tmod a := by rw [Int.tmod_def, Int.mul_comm]
  rw [pr_tdiv hz ha, ← Int64.ofInt_mul, ← Int64.ofInt_sub, e, pr_cmp0 (by
    unfold pr_sm at *
    rw [Int.natAbs_tmod]
    exact Nat.lt_of_le_of_lt (Nat.mod_le _ _) hz)]
  exact ⟨Int.dvd_of_tmod_eq_zero, Int.tmod_eq_zero_of_dvd⟩
theorem fr_sub {c x m k : Int32} {td pw lf : Nat → Int64} {i c0 : Nat} {post : Int32 → (Nat → Int64) → (Nat → Int64) → Prop} {K : (Nat → Int64) → (Nat → Int64) → Int32 → Prop} (hi : i < 4) (hc0 : c0 ≤ 4) (hp : ∀ lf', (∀ j, j < 4 → lf' j = if c0 ≤ j then lf j - pw i * td (4 * i + j) else lf j) → K pw lf' (nI (i + 1))) : wp_MD_isIn_142 c x m k td pw (nI i) post K lf (nI c0) := by
  intro P hP
  have key : ∀ d e g, e + d = 4 → c0 ≤ e → (∀ j, j < 4 → g j = if c0 ≤ j ∧ j < e then lf j - pw i * td (4 * i + j) else lf j) → P g (nI e) := by
    intro d
    induction d with
    | zero =>
      intro e g he hce hg
      refine hP g (nI e) ⟨fun _ v hv => ?_, fun q => absurd ((fi_4 (by omega)).mpr (by omega)) q⟩
      rw [hv, nI_1]
      exact hp g (fun j hj => by rw [hg j hj]; exact pz_ite (by omega))
    | succ d ih =>
      intro e g he hce hg
      refine hP g (nI e) ⟨fun q => ?_, fun _ => ⟨pz_in (by omega) (by omega), pz_in (by omega) (by omega), ?_⟩⟩
      · have := (fi_4 (by omega)).mp q; omega
      rw [pz_4', pz_c (by omega), pz_c (by omega), pz_c (by omega)]
      refine ⟨pz_in (by omega) (by omega), pz_in (by omega) (by omega), fun w hw v hv => ?_⟩
      rw [hv, nI_1]
      refine ih (e + 1) w (by omega) (by omega) (fun j hj => ?_)
      rw [hw, pz_updL, show g e = _ from (hg e (by omega)).trans (if_neg (by omega))]
      by_cases z : j = e
      · rw [if_pos z, if_pos (by omega), z]
      · rw [if_neg z, hg j hj]; exact pz_ite (by omega)
  exact key (4 - c0) c0 lf (by omega) (by omega) (fun j _ => by rw [if_neg (by omega)])
theorem fr_loop {ρ : Nat} {p : Nat → Nat} {B : Nat → Nat → Int} {v : Nat → Int} {t : Int} {c x k : Int32} {td pw lf : Nat → Int64} {post : Int32 → (Nat → Int64) → (Nat → Int64) → Prop} (hB : hn_Base 4 ρ p B) (hr : ρ ≤ 4) (hE : ∀ i j, i < ρ → j < 4 → (B i j).natAbs ≤ 15000) (htd : ∀ i j, i < ρ → j < 4 → td (4 * i + j) = Int64.ofInt (B i j)) (hv : ∀ j, j < 4 → (t * v j).natAbs ≤ 75000) (hl : ∀ j, j < 4 → lf j = Int64.ofInt (t * v j))
    (hp1 : ∀ (sh : Nat → Int) pw' lf', (∀ j, j < 4 → t * v j = hn_sum ρ (fun i => sh i * B i j)) → (∀ i, i < ρ → pw' i = Int64.ofInt (sh i)) → post 1 pw' lf') (hp0 : ¬ hn_In 4 ρ B (fun j => t * v j) → ∀ pw' lf', post 0 pw' lf') : wp_MD_isIn_49 c x (nI ρ) k td post pw lf 0 := by
  intro P hP
  have key : ∀ d i, i + d = ρ → ∀ (pw lf : Nat → Int64) (sh z : Nat → Int), (∀ j, j < 4 → z j = t * v j - hn_sum i (fun l => sh l * B l j)) → (∀ l, l < i → z (p l) = 0) → (∀ l, l < i → (sh l).natAbs ≤ 75000 * 2 ^ l) → (∀ j, j < 4 → lf j = Int64.ofInt (z j)) → (∀ l, l < i → pw l = Int64.ofInt (sh l)) → P pw lf (nI i) := by
    intro d
    induction d with
    | zero =>
      intro i hi pw lf sh z hz hz0 hsb hlz hpz
      have e4 : i = ρ := by omega
      subst e4
      have hsm : ∀ j, j < 4 → pr_sm (z j) := fun j hj => by
        have h1 := fb_abs (c := 75000 * 15000) (k := i) (f := fun l => sh l * B l j) (fun l hl => by
          rw [Int.natAbs_mul]
          have := Nat.mul_le_mul (hsb l hl) (hE l j hl hj)
          rw [show 75000 * 15000 * 2 ^ l = 75000 * 2 ^ l * 15000 by rw [Nat.mul_right_comm]]; exact this)
        have h2 : 2 ^ i ≤ 2 ^ 4 := Nat.pow_le_pow_right (by omega) hr
        have h3 := hv j hj
        have h4 := Nat.mul_le_mul_left (75000 * 15000) (show 2 ^ i - 1 ≤ 15 by omega)
        rw [hz j hj]
        unfold pr_sm
        omega
      have no : (¬ ∀ j, j < 4 → z j = 0) → ∀ pw' lf', post 0 pw' lf' := by
        intro q
        refine hp0 (fun hin => q (fun j hj => ?_))
        have i1 : hn_In 4 i B z := hn_In_congr (hn_In_sub hin (show hn_In 4 i B (fun j => hn_sum i (fun l => sh l * B l j)) from ⟨sh, fun _ _ => rfl⟩)) hz
        exact fb_zero hB i1 hz0 j hj
      have cz : ∀ j, j < 4 → (lg_cmp (lf j) 0 = 0 ↔ z j = 0) := fun j hj => by rw [hlz j hj, pr_cmp0 (hsm j hj)]
      have c0 : (0 : Int32).toNatClampNeg = 0 := rfl
      have c1 : (1 : Int32).toNatClampNeg = 1 := rfl
      have c2 : (2 : Int32).toNatClampNeg = 2 := rfl
      have c3 : (3 : Int32).toNatClampNeg = 3 := rfl
      refine hP _ _ _ ⟨fun _ => ⟨pz_in (n := 0) (by omega) (by omega), ?_⟩, fun q => absurd ((pz_le (by omega) (by omega)).mpr (by omega)) q⟩
      rw [c0, c1, c2, c3, cz 0 (by omega), cz 1 (by omega), cz 2 (by omega), cz 3 (by omega)]
      refine ⟨fun q => no (fun y => q (y 0 (by omega))) _ _, fun z0 => ⟨pz_in (n := 1) (by omega) (by omega), fun q => no (fun y => q (y 1 (by omega))) _ _, fun z1 => ⟨pz_in (n := 2) (by omega) (by omega), fun q => no (fun y => q (y 2 (by omega))) _ _, fun z2 => ⟨pz_in (n := 3) (by omega) (by omega), fun q => no (fun y => q (y 3 (by omega))) _ _, fun z3 => hp1 sh _ _ (fun j hj => ?_) hpz⟩⟩⟩⟩
      have e1 := hz j hj
      have e2 : z j = 0 := by rcases (show j = 0 ∨ j = 1 ∨ j = 2 ∨ j = 3 by omega) with rfl | rfl | rfl | rfl <;> assumption
      omega
    | succ d ih =>
      intro i hi pw lf sh z hz hz0 hsb hlz hpz
      have e4 : i < ρ := by omega
      refine hP _ _ _ ⟨fun q => ?_, fun _ => ?_⟩
      · have := (pz_le (by omega) (by omega)).mp q; omega
      intro Q hQ
      have hp4 := hB.1 i e4
      have hE4 := hE i (p i) e4 hp4
      have ha := hB.2.2.2.1 i e4
      have hzb : (z (p i)).natAbs ≤ (B i (p i)).natAbs * (75000 * 2 ^ i) := by
        have h1 := fb_abs (c := 75000 * (B i (p i)).natAbs) (k := i) (f := fun l => sh l * B l (p i)) (fun l hl => by
          rw [Int.natAbs_mul]
          have h2 := hB.2.2.2.2 l i hl e4
          have := Nat.mul_le_mul (hsb l hl) (show (B l (p i)).natAbs ≤ (B i (p i)).natAbs by omega)
          rw [Nat.mul_right_comm]; exact this)
        have h3 := hv (p i) hp4
        have h4 : 1 ≤ 2 ^ i := Nat.one_le_two_pow
        have h5 : 75000 * 1 ≤ 75000 * (B i (p i)).natAbs := Nat.mul_le_mul_left _ (by omega)
        rw [hz (p i) hp4]
        have h6 : (B i (p i)).natAbs * (75000 * 2 ^ i) = 75000 * (B i (p i)).natAbs * (2 ^ i - 1) + 75000 * (B i (p i)).natAbs * 1 := by
          rw [← Nat.mul_add, Nat.sub_add_cancel h4, ← Nat.mul_assoc, Nat.mul_comm _ 75000]
        omega
      have h2i : 2 ^ i ≤ 2 ^ 3 := Nat.pow_le_pow_right (by omega) (by omega)
      have sma : pr_sm (B i (p i)) := by unfold pr_sm; omega
      have smz : pr_sm (z (p i)) := by
        have := Nat.mul_le_mul hE4 (Nat.mul_le_mul_left 75000 h2i)
        unfold pr_sm; omega
      have key2 : ∀ e u, u + e = p i → Q (nI u) := by
        intro e
        induction e with
        | zero =>
          intro u hu
          have eu : u = p i := by omega
          subst eu
          refine hQ _ ?_
          unfold wp_MD_isIn_61b
          rw [pz_4', pz_c (by omega), pz_c (by omega), htd i (p i) e4 hp4, hlz (p i) hp4]
          refine ⟨pz_in (by omega) (by omega), fun _ => ⟨pz_in (by omega) (by omega), pz_in (by omega) (by omega), fun a ea => ⟨fun q => ?_, fun q => ?_, fun q => ?_⟩⟩, fun q => ?_⟩
          · rw [ea, pr_eq0 sma] at q; omega
          · rw [ea, fr_mod smz sma] at q
            obtain ⟨y, hy⟩ := q
            have hyb : y.natAbs ≤ 75000 * 2 ^ i := by
              rw [hy, Int.natAbs_mul] at hzb
              exact Nat.le_of_mul_le_mul_left hzb (by omega)
            refine ⟨pz_in (by omega) (by omega), pz_in (by omega) (by omega), fun b eb => ⟨fun q => ?_, pz_in (by omega) (by omega), fun w hw => ?_⟩⟩
            · rw [eb, pr_eq0 sma] at q; omega
            rw [eb, pr_tdiv smz sma, hy, Int.mul_comm, Int.mul_tdiv_cancel _ (show B i (p i) ≠ 0 by omega), pz_c (by omega)] at hw
            refine fr_sub (by omega) (by omega) (fun lf' hlf' => ?_)
            refine ih (i + 1) (by omega) w lf' (fun l => if l = i then y else sh l) (fun j => z j - y * B i j) (fun j hj => ?_) (fun l hl => ?_) (fun l hl => ?_) (fun j hj => ?_) (fun l hl => ?_)
            · show z j - y * B i j = t * v j - hn_sum (i + 1) (fun l => (if l = i then y else sh l) * B l j)
              rw [hn_sum_s, hn_sum_congr (g := fun l => sh l * B l j) (fun l hl => by show (if l = i then y else sh l) * B l j = _; rw [if_neg (by omega)]), hz j hj]
              simp only [if_true]
              omega
            · show z (p l) - y * B i (p l) = 0
              rcases (show l < i ∨ l = i by omega) with q | q
              · rw [hz0 l q, hB.2.2.1 i (p l) e4 (hB.2.1 l i q e4)]; omega
              · rw [q, hy, Int.mul_comm]; omega
            · show (if l = i then y else sh l).natAbs ≤ _
              split
              · rename_i q; rw [q]; exact hyb
              · exact hsb l (by omega)
            · show lf' j = Int64.ofInt (z j - y * B i j)
              rw [hlf' j hj, hw, pz_updL, if_pos rfl, htd i j e4 hj, hlz j hj]
              split
              · rw [← Int64.ofInt_mul, ← Int64.ofInt_sub]
              · rw [hB.2.2.1 i j e4 (by omega), Int.mul_zero, Int.sub_zero]
            · show w l = Int64.ofInt (if l = i then y else sh l)
              rw [hw, pz_updL]
              split
              · rfl
              · exact hpz l (by omega)
          · refine hp0 (fun hin => q ?_) _ _
            rw [ea, fr_mod smz sma]
            obtain ⟨g, hg⟩ := hin
            have hcf : ∀ j, j < 4 → z j = hn_sum ρ (fun l => (g l - if l < i then sh l else 0) * B l j) := by
              intro j hj
              rw [hz j hj, show t * v j = _ from hg j hj]
              have s1 : hn_sum ρ (fun l => (if l < i then sh l else 0) * B l j) = hn_sum i (fun l => sh l * B l j) := by
                rw [show ρ = i + (ρ - i) by omega, hn_sum_split, hn_sum_congr (g := fun l => sh l * B l j) (fun l hl => by show (if l < i then sh l else 0) * B l j = _; rw [if_pos hl]), hn_sum_zero (f := fun l => (if i + l < i then sh (i + l) else 0) * B (i + l) j) (fun l _ => by show (if i + l < i then sh (i + l) else 0) * B (i + l) j = 0; rw [if_neg (by omega), Int.zero_mul])]
                omega
              rw [← s1, hn_sum_congr (f := fun l => (g l - if l < i then sh l else 0) * B l j) (g := fun l => g l * B l j + -1 * ((if l < i then sh l else 0) * B l j)) (fun l _ => by show (g l - if l < i then sh l else 0) * B l j = _; grind), hn_sum_add, hn_sum_mul]
              omega
            have h0 := fb_coef hB hcf (show i ≤ ρ by omega) hz0
            rw [hcf (p i) hp4, hn_at hB _ e4 h0]
            exact ⟨_, Int.mul_comm _ _⟩
          · rw [pr_cmp0 sma] at q; omega
        | succ e ihe =>
          intro u hu
          refine hQ _ ?_
          unfold wp_MD_isIn_61b
          rw [pz_4', pz_c (by omega), htd i u e4 (by omega), hB.2.2.1 i u e4 (by omega)]
          refine ⟨pz_in (by omega) (by omega), fun q => absurd (show lg_cmp (Int64.ofInt 0) 0 = 0 by decide) q, fun _ w hw => ?_⟩
          rw [hw, nI_1]
          exact ihe (u + 1) (by omega)
      exact key2 (p i) 0 (by omega)
  exact key ρ 0 (by omega) pw lf (fun _ => 0) (fun j => t * v j) (fun j _ => by show t * v j = t * v j - 0; omega) (fun l hl => by omega) (fun l hl => by omega) hl (fun l hl => by omega)
