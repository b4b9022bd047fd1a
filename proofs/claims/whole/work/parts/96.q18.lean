/-! The class's search for a multiple in the group. -/
theorem fi_4 {k : Nat} (h : k < 10000) : (4 : Int32) ≤ nI k ↔ 4 ≤ k := pz_le (a := 4) (by omega) h
theorem fi_widen2 {k : Int32} {R Sh : Nat → Int64} {a : Int64} {s : Nat} {post : (Nat → Int64) → (Nat → Int64) → Prop} (hs : s ≤ 4) (hp : ∀ Sh', (∀ i, Sh' i = if i < s then Sh i * a else Sh i) → post R Sh') : wp_PW_widen_29 k R a (nI s) post Sh 0 := by
  intro P hP
  have key : ∀ m c g, c + m = s → (∀ i, g i = if i < c then Sh i * a else Sh i) → P g (nI c) := by
    intro m
    induction m with
    | zero =>
      intro c g hc hg
      refine hP g (nI c) ⟨fun _ => hp g ?_, fun q => absurd ((pz_le (by omega) (by omega)).mpr (by omega)) q⟩
      rw [← show c = s by omega]; exact hg
    | succ m ih =>
      intro c g hc hg
      refine hP g (nI c) ⟨fun q => ?_, fun _ => ⟨pz_in (by omega) (by omega), pz_in (by omega) (by omega), fun w hw v hv => ?_⟩⟩
      · have := (pz_le (by omega) (by omega)).mp q; omega
      · rw [hv, nI_1]
        refine ih (c + 1) w (by omega) (fun i => ?_)
        rw [hw, pz_c (by omega), pz_updL, show g c = _ from (hg c).trans (if_neg (by omega))]
        by_cases e : i = c
        · rw [if_pos e, if_pos (by omega), e]
        · rw [if_neg e, hg i]; exact pz_ite (by omega)
  exact key s 0 Sh (by omega) (fun i => by rw [if_neg (by omega)])
theorem fi_widen {k : Int32} {R Sh : Nat → Int64} {a : Int64} {s : Nat} {post : (Nat → Int64) → (Nat → Int64) → Prop} (hs : s ≤ 4) (hp : ∀ R' Sh', (∀ j, j < 4 → R' j = R j * a) → (∀ i, Sh' i = if i < s then Sh i * a else Sh i) → post R' Sh') : wp_PW_widen k R Sh a (nI s) post := by
  unfold wp_PW_widen
  intro P hP
  have key : ∀ m c g, c + m = 4 → (∀ j, j < 4 → g j = if j < c then R j * a else R j) → P g (nI c) := by
    intro m
    induction m with
    | zero =>
      intro c g hc hg
      refine hP g (nI c) ⟨fun _ => fi_widen2 hs (fun Sh' h' => hp g Sh' (fun j hj => ?_) h'), fun q => absurd ((fi_4 (by omega)).mpr (by omega)) q⟩
      rw [hg j hj, if_pos (by omega)]
    | succ m ih =>
      intro c g hc hg
      refine hP g (nI c) ⟨fun q => ?_, fun _ => ⟨pz_in (by omega) (by omega), pz_in (by omega) (by omega), fun w hw v hv => ?_⟩⟩
      · have := (fi_4 (by omega)).mp q; omega
      · rw [hv, nI_1]
        refine ih (c + 1) w (by omega) (fun i hi => ?_)
        rw [hw, pz_c (by omega), pz_updL, show g c = _ from (hg c (by omega)).trans (if_neg (by omega))]
        by_cases e : i = c
        · rw [if_pos e, if_pos (by omega), e]
        · rw [if_neg e, hg i hi]; exact pz_ite (by omega)
  exact key 4 0 R (by omega) (fun j _ => by rw [if_neg (by omega)])
theorem fi_take {k h w im : Int32} {f R Sh : Nat → Int64} {s : Nat} {post : (Nat → Int64) → Prop} (hs : s < 4) (hp : ∀ R', (∀ j, j < 4 → R' j = R j - Sh s * f (8 * s + j)) → post R') : wp_PW_takeAwayShare k R Sh h w im f (nI s) post := by
  unfold wp_PW_takeAwayShare
  intro P hP
  have key : ∀ m c g, c + m = 4 → (∀ j, j < 4 → g j = if j < c then R j - Sh s * f (8 * s + j) else R j) → P g (nI c) := by
    intro m
    induction m with
    | zero =>
      intro c g hc hg
      refine hP g (nI c) ⟨fun _ => hp g (fun j hj => ?_), fun q => absurd ((fi_4 (by omega)).mpr (by omega)) q⟩
      rw [hg j hj, if_pos (by omega)]
    | succ m ih =>
      intro c g hc hg
      refine hP g (nI c) ⟨fun q => ?_, fun _ => ⟨pz_in (by omega) (by omega), pz_in (by omega) (by omega), pz_cell hs (by omega) ⟨pz_in (by omega) (by omega), fun w hw v hv => ?_⟩⟩⟩
      · have := (fi_4 (by omega)).mp q; omega
      · rw [hv, nI_1]
        refine ih (c + 1) w (by omega) (fun i hi => ?_)
        rw [hw, pz_c (by omega), pz_c (by omega), pz_updL, show g c = _ from (hg c (by omega)).trans (if_neg (by omega))]
        by_cases e : i = c
        · rw [if_pos e, if_pos (by omega), e]
        · rw [if_neg e, hg i hi]; exact pz_ite (by omega)
  exact key 4 0 R (by omega) (fun j _ => by rw [if_neg (by omega)])
theorem fi_left {k : Int32} {R : Nat → Int64} {post : Int32 → Prop} (h1 : (∀ j, j < 4 → R j = 0) → post 1) (h0 : (¬ ∀ j, j < 4 → R j = 0) → post 0) : wp_PW_isNothingLeft k R post := by
  unfold wp_PW_isNothingLeft
  intro P hP
  have key : ∀ m c, c + m = 4 → (∀ j, j < c → R j = 0) → P (nI c) := by
    intro m
    induction m with
    | zero =>
      intro c hc hg
      exact hP (nI c) ⟨fun _ => h1 (fun j hj => hg j (by omega)), fun q => absurd ((fi_4 (by omega)).mpr (by omega)) q⟩
    | succ m ih =>
      intro c hc hg
      refine hP (nI c) ⟨fun q => ?_, fun _ => ⟨pz_in (by omega) (by omega), fun q v hv => ?_, fun q => h0 (fun z => q ?_)⟩⟩
      · have := (fi_4 (by omega)).mp q; omega
      · rw [pz_cmp0, pz_c (by omega)] at q
        rw [hv, nI_1]
        refine ih (c + 1) (by omega) (fun j hj => ?_)
        rcases (show j < c ∨ j = c by omega) with z | z
        · exact hg j z
        · rw [z]; exact q
      · rw [pz_cmp0, pz_c (by omega)]; exact z c (by omega)
  exact key 4 0 (by omega) (fun j hj => by omega)
/-- what two numbers have in common, divided out -/
theorem fi_gcd {a x : Int} (ha : 0 < a) : ∃ u y g : Int, ((Nat.gcd a.natAbs x.natAbs : Nat) : Int) = g ∧ 0 < g ∧ 0 < u ∧ a = u * g ∧ x = y * g ∧ ∀ c e : Int, u * c = e * y → u ∣ e := by
  have hg : 0 < Nat.gcd a.natAbs x.natAbs := Nat.gcd_pos_of_pos_left _ (by omega)
  obtain ⟨u, hu⟩ := Int.ofNat_dvd_left.mpr (Nat.gcd_dvd_left a.natAbs x.natAbs)
  obtain ⟨y, hy⟩ := Int.ofNat_dvd_left.mpr (Nat.gcd_dvd_right a.natAbs x.natAbs)
  generalize hgg : Nat.gcd a.natAbs x.natAbs = g at *
  have hgi : (0 : Int) < (g : Int) := by omega
  have hu0 : 0 < u := by
    rcases Int.lt_or_le 0 u with q | q
    · exact q
    · have := Int.mul_nonneg (show 0 ≤ (g : Int) by omega) (show 0 ≤ -u by omega)
      rw [Int.mul_neg] at this; omega
  refine ⟨u, y, g, rfl, hgi, hu0, by rw [hu, Int.mul_comm], by rw [hy, Int.mul_comm], fun c e h => ?_⟩
  have hd : Nat.Coprime u.natAbs y.natAbs := by
    have d1 : g * Nat.gcd u.natAbs y.natAbs ∣ g := by
      have : g * Nat.gcd u.natAbs y.natAbs ∣ Nat.gcd a.natAbs x.natAbs := by
        apply Nat.dvd_gcd
        · rw [hu, Int.natAbs_mul]; exact Nat.mul_dvd_mul (by simp) (Nat.gcd_dvd_left _ _)
        · rw [hy, Int.natAbs_mul]; exact Nat.mul_dvd_mul (by simp) (Nat.gcd_dvd_right _ _)
      rw [hgg] at this; exact this
    have d2 := Nat.le_of_dvd hg d1
    have d3 : 0 < Nat.gcd u.natAbs y.natAbs := Nat.gcd_pos_of_pos_left _ (by omega)
    have d4 : g * Nat.gcd u.natAbs y.natAbs ≤ g * 1 := by omega
    have d5 := Nat.le_of_mul_le_mul_left d4 hg
    show Nat.gcd u.natAbs y.natAbs = 1
    omega
  have h2 : u.natAbs ∣ e.natAbs * y.natAbs := by
    rw [← Int.natAbs_mul, ← h, Int.natAbs_mul]; exact Nat.dvd_mul_right _ _
  exact Int.natAbs_dvd_natAbs.mp (hd.dvd_of_dvd_mul_right h2)
