theorem fi_bool1 : narrow .boolean (.int 1) = .int 1 ∧ fits .boolean (.int 1) = true := ⟨rfl, rfl⟩
theorem fi_bool0 : narrow .boolean (.int 0) = .int 0 ∧ fits .boolean (.int 0) = true := ⟨rfl, rfl⟩
theorem fi_pow {s : Nat} (h : s ≤ 4) : 5 * 30000 ^ s < 4611686018427387904 := by
  have := Nat.pow_le_pow_right (n := 30000) (by omega) h
  have e : 30000 ^ 4 = 810000000000000000 := by decide
  omega
theorem fi_find {ρ : Nat} {p : Nat → Nat} {B : Nat → Nat → Int} {v : Nat → Int} {k h w : Int32} {f R0 Sh0 : Nat → Int64} {post : Int64 → Int32 → (Nat → Int64) → (Nat → Int64) → Prop} (hB : hn_Base 4 ρ p B) (hr : ρ ≤ 4) (hE : ∀ i j, i < ρ → j < 4 → (B i j).natAbs ≤ 15000) (hf : ∀ i j, i < ρ → j < 4 → f (8 * i + j) = Int64.ofInt (B i j)) (hv : ∀ j, j < 4 → (v j).natAbs ≤ 5) (hR : ∀ j, j < 4 → R0 j = Int64.ofInt (v j))
    (hp1 : ∀ (m : Int) (sh : Nat → Int) R' Sh', 1 ≤ m → (∀ j, j < 4 → m * v j = hn_sum ρ (fun i => sh i * B i j)) → (∀ (t : Int) (c : Nat → Int), (∀ i, i < ρ → m * c i = t * sh i) → m ∣ t) → (∀ i, i < ρ → Sh' i = Int64.ofInt (sh i)) → post (Int64.ofInt m) 1 R' Sh')
    (hp0 : (∀ t : Int, t ≠ 0 → ¬ hn_In 4 ρ B (fun j => t * v j)) → ∀ R' Sh', post 0 0 R' Sh') : wp_PW_find k R0 Sh0 h w (nI ρ) f post := by
  unfold wp_PW_find
  intro P hP
  have key : ∀ d c, c + d = 4 → ∀ (s : Nat) (R Sh : Nat → Int64) (m : Int) (sh z : Nat → Int), s ≤ ρ → (∀ l, l < s → p l < c) → (∀ l, s ≤ l → l < ρ → c ≤ p l) → 1 ≤ m → (∀ j, j < 4 → z j = m * v j - hn_sum s (fun i => sh i * B i j)) → (∀ l, l < s → z (p l) = 0) → (∀ j, j < 4 → (z j).natAbs ≤ 5 * 30000 ^ s) → (∀ (t : Int) (c : Nat → Int), (∀ i, i < s → m * c i = t * sh i) → m ∣ t) → (∀ j, j < 4 → R j = Int64.ofInt (z j)) → (∀ i, i < s → Sh i = Int64.ofInt (sh i)) → P R Sh (Int64.ofInt m) (nI s) (nI c) := by
    intro d
    induction d with
    | zero =>
      intro c hc s R Sh m sh z hs hlo hhi hm hz hz0 hzb hmin hRz hSz
      have e4 : s = ρ := by
        rcases (show s = ρ ∨ s < ρ by omega) with q | q
        · exact q
        · have := hhi s (Nat.le_refl _) q; have := hB.1 s q; omega
      subst e4
      have hsm : ∀ j, j < 4 → pr_sm (z j) := fun j hj => by have := hzb j hj; have := fi_pow hr; unfold pr_sm; omega
      refine hP _ _ _ _ _ ⟨fun _ => fi_left (fun q => ?_) (fun q => ?_), fun q => absurd ((fi_4 (by omega)).mpr (by omega)) q⟩
      · refine ⟨fi_bool1.1, fi_bool1.2, fun e => absurd e (by decide), fun _ => hp1 m sh _ _ hm (fun j hj => ?_) hmin hSz⟩
        have e1 := q j hj
        rw [hRz j hj, pr_eq0 (hsm j hj), hz j hj] at e1
        omega
      · refine ⟨fi_bool0.1, fi_bool0.2, fun _ => hp0 (fun t ht hin => q (fun j hj => ?_)) _ _, fun e => absurd rfl e⟩
        rw [hRz j hj, pr_eq0 (hsm j hj)]
        have i1 : hn_In 4 s B (fun j => t * z j) := by
          refine hn_In_congr (hn_In_sub (hn_In_mul m hin) (hn_In_mul t (show hn_In 4 s B (fun j => hn_sum s (fun i => sh i * B i j)) from ⟨sh, fun _ _ => rfl⟩))) (fun j hj => ?_)
          show t * z j = m * (t * v j) - t * hn_sum s (fun i => sh i * B i j)
          rw [hz j hj]; grind
        have i2 := fb_zero hB i1 (fun l hl => by show t * z (p l) = 0; rw [hz0 l hl, Int.mul_zero]) j hj
        rcases Int.mul_eq_zero.mp i2 with q | q
        · exact absurd q ht
        · exact q
    | succ d ih =>
      intro c hc s R Sh m sh z hs hlo hhi hm hz hz0 hzb hmin hRz hSz
      refine hP _ _ _ _ _ ⟨fun q => ?_, fun _ => ⟨fun q => ?_, fun q => ?_⟩⟩
      · have := (fi_4 (by omega)).mp q; omega
      · have e4 : s = ρ := by have := (pz_le (by omega) (by omega)).mp q; omega
        refine ⟨fun _ => ?_, fun q => absurd (show lg_cmp 0 0 ≤ 0 by decide) q⟩
        intro w hw
        rw [hw, nI_1]
        exact ih (c + 1) (by omega) s R Sh m sh z hs (fun l hl => by have := hlo l hl; omega) (fun l h1 h2 => by omega) hm hz hz0 hzb hmin hRz hSz
      · have e4 : s < ρ := by
          rcases (show s = ρ ∨ s < ρ by omega) with z | z
          · exact absurd ((pz_le (by omega) (by omega)).mpr (by omega)) q
          · exact z
        have hc4 : c < 4 := by omega
        refine pz_cell (by omega) (by omega) ?_
        rw [hf s c e4 hc4]
        have hps := hhi s (Nat.le_refl _) e4
        have hba := hE s c e4 hc4
        rcases (show c < p s ∨ p s = c by omega) with hcs | hcs
        · rw [hB.2.2.1 s c e4 hcs]
          refine ⟨fun _ => ?_, fun q => absurd (show lg_cmp (Int64.ofInt 0) 0 ≤ 0 by decide) q⟩
          intro w hw
          rw [hw, nI_1]
          exact ih (c + 1) (by omega) s R Sh m sh z hs (fun l hl => by have := hlo l hl; omega) (fun l h1 h2 => by
            rcases (show l = s ∨ s < l by omega) with y | y
            · rw [y]; omega
            · have := hB.2.1 s l y h2; omega) hm hz hz0 hzb hmin hRz hSz
        · have ha : 0 < B s c := by have := hB.2.2.2.1 s e4; rw [hcs] at this; exact this
          obtain ⟨u, y, g, eg, g0, u0, ea, exy, hcop⟩ := fi_gcd (a := B s c) (x := z c) ha
          have hzc := hzb c hc4
          have hpw := fi_pow (s := s) (by omega)
          have hpw3 : 5 * 30000 ^ s ≤ 5 * 30000 ^ 3 := Nat.mul_le_mul_left _ (Nat.pow_le_pow_right (by omega) (by omega))
          have e3 : 5 * 30000 ^ 3 = 135000000000000 := by decide
          generalize hX : 5 * 30000 ^ s = X at *
          have sma : pr_sm (B s c) := by unfold pr_sm; omega
          have smz : pr_sm (z c) := by unfold pr_sm; omega
          have hug : u.natAbs * g.natAbs ≤ 15000 := by rw [← Int.natAbs_mul, ← ea]; exact hba
          have hu : u.natAbs ≤ 15000 := Nat.le_trans (Nat.le_mul_of_pos_right _ (by omega)) hug
          have hgb : g.natAbs ≤ 15000 := Nat.le_trans (Nat.le_mul_of_pos_left _ (by omega)) hug
          have hyb : y.natAbs ≤ X := by
            have : y.natAbs * g.natAbs ≤ X := by rw [← Int.natAbs_mul, ← exy]; exact hzc
            exact Nat.le_trans (Nat.le_mul_of_pos_right _ (by omega)) this
          have smg : pr_sm g := by unfold pr_sm; omega
          refine ⟨fun q => ?_, fun _ => ⟨pz_in (by omega) (by omega), ?_⟩⟩
          · rw [pr_cmple sma] at q; omega
          rw [pz_c (by omega), hRz c hc4]
          refine gd_common sma smz ?_
          rw [eg]
          refine ⟨fun q => ?_, fun _ => ⟨fun q => ?_, ?_⟩⟩
          · rw [pr_cmple smg] at q; omega
          · rw [pr_eq0 smg] at q; omega
          rw [pr_tdiv sma smg, show (B s c).tdiv g = u by rw [ea]; exact Int.mul_tdiv_cancel _ (by omega)]
          intro mm hmm
          refine fi_widen (by omega) (fun R' Sh' hR' hSh' => ⟨pz_in (by omega) (by omega), fun q => ?_, pz_in (by omega) (by omega), fun W hW => fi_take (by omega) (fun R2 hR2 => fun s2 hs2 => fun c2 hc2 => ?_)⟩)
          · rw [pr_eq0 sma] at q; omega
          rw [hs2, hc2, hmm, nI_1, nI_1, ← Int64.ofInt_mul]
          have eR' : ∀ j, j < 4 → R' j = Int64.ofInt (z j * u) := fun j hj => by rw [hR' j hj, hRz j hj, ← Int64.ofInt_mul]
          have smx : pr_sm (z c * u) := by
            unfold pr_sm
            rw [Int.natAbs_mul]
            have := Nat.mul_le_mul hzc hu
            have := Nat.mul_le_mul_right 15000 hpw3
            omega
          have eW : W = vp_updL Sh' s (Int64.ofInt y) := by
            rw [hW, pz_c (by omega), eR' c hc4, pr_tdiv smx sma]
            congr 2
            rw [exy, show y * g * u = y * (u * g) by grind, ← ea]
            exact Int.mul_tdiv_cancel _ (by omega)
          have eWs : W s = Int64.ofInt y := by rw [eW, pz_updL, if_pos rfl]
          refine ih (c + 1) (by omega) (s + 1) R2 W (m * u) (fun i => if i = s then y else sh i * u) (fun j => z j * u - y * B s j) (by omega) (fun l hl => ?_) (fun l h1 h2 => ?_) ?_ (fun j hj => ?_) (fun l hl => ?_) (fun j hj => ?_) (fun t c' hc' => ?_) (fun j hj => ?_) (fun i hi => ?_)
          · rcases (show l < s ∨ l = s by omega) with q | q
            · have := hlo l q; omega
            · rw [q, hcs]; omega
          · have := hB.2.1 s l (by omega) h2; omega
          · have := Int.mul_pos (show 0 < m by omega) u0; omega
          · show z j * u - y * B s j = m * u * v j - hn_sum (s + 1) (fun i => (if i = s then y else sh i * u) * B i j)
            rw [hn_sum_s, hn_sum_congr (g := fun i => u * (sh i * B i j)) (fun i hi => by show (if i = s then y else sh i * u) * B i j = _; rw [if_neg (by omega)]; grind), hn_sum_mul, hz j hj]
            simp only [if_true]
            grind
          · show z (p l) * u - y * B s (p l) = 0
            rcases (show l < s ∨ l = s by omega) with q | q
            · rw [hz0 l q, hB.2.2.1 s (p l) e4 (hB.2.1 l s q e4)]; omega
            · rw [q, hcs, exy, ea]; grind
          · show (z j * u - y * B s j).natAbs ≤ 5 * 30000 ^ (s + 1)
            have a1 : (z j * u).natAbs ≤ X * 15000 := by rw [Int.natAbs_mul]; exact Nat.mul_le_mul (hzb j hj) hu
            have a2 : (y * B s j).natAbs ≤ X * 15000 := by rw [Int.natAbs_mul]; exact Nat.mul_le_mul hyb (hE s j e4 hj)
            rw [Nat.pow_succ, ← Nat.mul_assoc, hX]
            omega
          · have b1 : ∀ i, i < s → m * c' i = t * sh i := by
              intro i hi
              have := hc' i (by omega)
              simp only [show i ≠ s by omega, if_false] at this
              exact Int.eq_of_mul_eq_mul_right (show u ≠ 0 by omega) (by rw [show m * c' i * u = m * u * c' i by grind, this]; grind)
            obtain ⟨e, he⟩ := hmin t c' b1
            have b2 := hc' s (by omega)
            simp only [if_true] at b2
            have b3 : u * c' s = e * y := by
              refine Int.eq_of_mul_eq_mul_left (show m ≠ 0 by omega) ?_
              rw [show m * (u * c' s) = m * u * c' s by grind, b2, he]; grind
            obtain ⟨e', he'⟩ := hcop _ _ b3
            exact ⟨e', by rw [he, he']; grind⟩
          · show R2 j = Int64.ofInt (z j * u - y * B s j)
            rw [hR2 j hj, eWs, hf s j e4 hj, eR' j hj, ← Int64.ofInt_mul, ← Int64.ofInt_sub]
          · show W i = Int64.ofInt (if i = s then y else sh i * u)
            rw [eW, pz_updL]
            by_cases q : i = s
            · rw [if_pos q, if_pos q]
            · rw [if_neg q, if_neg q, hSh' i, if_pos (by omega), hSz i (by omega), ← Int64.ofInt_mul]
  refine key 4 0 (by omega) 0 R0 Sh0 1 (fun _ => 0) v (by omega) (fun l hl => by omega) (fun l _ _ => by omega) (by omega) (fun j _ => ?_) (fun l hl => by omega) (fun j hj => by have := hv j hj; simp; omega) (fun t c _ => ⟨t, by omega⟩) hR (fun i hi => by omega)
  show v j = 1 * v j - 0
  omega
