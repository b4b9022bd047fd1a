/-! multiply -/
def mu_S (j1 j2 : Nat) (x : Int32) (ex : Nat → Int32) : Nat → Int32 := fun l => ex (4 * j1 + l) + x * ex (4 * j2 + l)
def mu_z (j1 j2 : Nat) (x : Int32) (ex : Nat → Int32) (c : Nat) : Nat → Int32 := fun j => if 4 * j1 ≤ j ∧ j < 4 * j1 + c then mu_S j1 j2 x ex (j - 4 * j1) else ex j
theorem mu_s {j1 j2 : Nat} {x : Int32} {ex : Nat → Int32} {c : Nat} (hne : j1 ≠ j2) (hc : c < 4) : upd (mu_z j1 j2 x ex c) (4 * j1 + c) (mu_z j1 j2 x ex c (4 * j1 + c) + x * mu_z j1 j2 x ex c (4 * j2 + c)) = mu_z j1 j2 x ex (c + 1) := by
  funext j
  rw [pz_upd]
  have e1 : mu_z j1 j2 x ex c (4 * j1 + c) = ex (4 * j1 + c) := if_neg (by omega)
  have e2 : mu_z j1 j2 x ex c (4 * j2 + c) = ex (4 * j2 + c) := if_neg (by omega)
  rw [e1, e2]
  unfold mu_z
  by_cases e : j = 4 * j1 + c
  · rw [if_pos e, if_pos (by omega), e, show 4 * j1 + c - 4 * j1 = c by omega]; rfl
  · rw [if_neg e]; exact pz_ite (by omega)
theorem mu_0 {j1 j2 : Nat} {x : Int32} {ex : Nat → Int32} : mu_z j1 j2 x ex 0 = ex := funext (fun j => if_neg (by omega))
theorem mu_ok {n0 j1 j2 : Nat} {x : Int32} {ex : Nat → Int32} (h : st_ok n0 ex) (hS : ∀ l, l < 4 → (mu_S j1 j2 x ex l).toInt.natAbs ≤ 5) : st_ok n0 (mu_z j1 j2 x ex 4) := by
  refine ⟨h.1, fun e l he hl => ?_⟩
  unfold mu_z
  split
  · exact hS _ (by omega)
  · exact h.2 e l he hl
theorem sr_multiply {n0 j1 j2 : Nat} {s kk x : Int32} {ex : Nat → Int32} {post : Int32 → Int32 → (Nat → Int32) → Int32 → Prop} (hn : n0 ≤ 4) (h1 : j1 < n0) (h2 : j2 < n0) (hne : j1 ≠ j2) (hx : x.toInt.natAbs ≤ 5) (hp1 : (∀ l, l < 4 → (mu_S j1 j2 x ex l).toInt.natAbs ≤ 5) → post 1 0 (mu_z j1 j2 x ex 4) 0) (hp0 : (¬ ∀ l, l < 4 → (mu_S j1 j2 x ex l).toInt.natAbs ≤ 5) → post 0 s ex kk) : wp_SR_multiply (nI n0) s ex kk (nI j1) (nI j2) x post := by
  have p4 : ∀ j, nI j * 4 = nI (4 * j) := fun j => by rw [show (4 : Int32) = nI 4 from rfl, pk_mul, Nat.mul_comm]
  refine sr_below (by omega) ⟨j1, h1, rfl⟩ (sr_below (by omega) ⟨j2, h2, rfl⟩ ⟨fun _ => sr_exp hx (fun v hv v' hv' => ?_), fun q => ?_⟩)
  · rw [hv, hv', p4, p4]
    intro P hP
    have key2 : (∀ l, l < 4 → (mu_S j1 j2 x ex l).toInt.natAbs ≤ 5) → wp_SR_multiply_88 (nI n0) s kk x (nI (4 * j1)) (nI (4 * j2)) post ex 0 := by
      intro hall Q hQ
      have key : ∀ d c, c + d = 4 → Q (mu_z j1 j2 x ex c) (nI c) := by
        intro d
        induction d with
        | zero =>
          intro c hc
          refine hQ _ _ ⟨fun _ => ?_, fun q => absurd ((fi_4 (by omega)).mpr (by omega)) q⟩
          rw [show c = 4 by omega]; exact hp1 hall
        | succ d ih =>
          intro c hc
          refine hQ _ _ ⟨fun q => ?_, fun _ w hw => ?_⟩
          · have := (fi_4 (by omega)).mp q; omega
          rw [hw, nI_add, nI_add, pz_c (by omega), pz_c (by omega)]
          refine ⟨pz_in (by omega) (by omega), pz_in (by omega) (by omega), pz_in (by omega) (by omega), fun g hg v hv => ?_⟩
          rw [hv, nI_1, hg, mu_s hne (by omega)]
          exact ih (c + 1) (by omega)
      have := key 4 0 (by omega)
      rw [mu_0] at this
      exact this
    have key : ∀ d c, c + d = 4 → (∀ l, l < c → (mu_S j1 j2 x ex l).toInt.natAbs ≤ 5) → P (nI c) := by
      intro d
      induction d with
      | zero =>
        intro c hc hl
        exact hP _ ⟨fun _ => key2 (fun l h => hl l (by omega)), fun q => absurd ((fi_4 (by omega)).mpr (by omega)) q⟩
      | succ d ih =>
        intro c hc hl
        refine hP _ ⟨fun q => ?_, fun _ => ?_⟩
        · have := (fi_4 (by omega)).mp q; omega
        rw [nI_add, nI_add, pz_c (by omega), pz_c (by omega)]
        refine ⟨pz_in (by omega) (by omega), pz_in (by omega) (by omega), sr_isExp (fun q => ⟨fun _ w hw => ?_, fun q => absurd q (by decide)⟩) (fun q => ⟨fun z => absurd rfl z, fun _ => hp0 (fun z => q (z c (by omega)))⟩)⟩
        rw [hw, nI_1]
        refine ih (c + 1) (by omega) (fun l h => ?_)
        rcases (show l < c ∨ l = c by omega) with z | z
        · exact hl l z
        · rw [z]; exact q
    exact key 4 0 (by omega) (fun l h => by omega)
  · have := (pz_eq (by omega) (by omega)).mp q; omega
theorem mu_eq {n0 : Nat} {a b : Int32} (hn : n0 ≤ 4) (ha : rg a n0) (hb : rg b n0) (h : ¬ a = b) : ∃ j1 j2, j1 < n0 ∧ j2 < n0 ∧ j1 ≠ j2 ∧ a = nI j1 ∧ b = nI j2 := by
  obtain ⟨j1, h1, e1⟩ := ha
  obtain ⟨j2, h2, e2⟩ := hb
  exact ⟨j1, j2, h1, h2, fun e => h (by rw [e1, e2, e]), e1, e2⟩
theorem sr_multiplyx {n0 : Nat} {s kk a b x : Int32} {ex : Nat → Int32} {px : String → Int32 → (Nat → Int32) → Int32 → Prop} (hn : n0 ≤ 4) (h1 : ¬ (rg a n0 ∧ rg b n0) → px "java/lang/IndexOutOfBoundsException" s ex kk) (h2 : rg a n0 ∧ rg b n0 → ¬ (¬ a = b ∧ x.toInt.natAbs ≤ 5) → px "java/lang/IllegalArgumentException" s ex kk) (h : ¬ (rg a n0 ∧ rg b n0 ∧ ¬ a = b ∧ x.toInt.natAbs ≤ 5)) : wp_SR_multiplyx (nI n0) s ex kk a b x px := by
  by_cases ra : rg a n0
  · refine Or.inr (sr_below (by omega) ra ?_)
    by_cases rb : rg b n0
    · have h3 := h2 ⟨ra, rb⟩ (fun q => h ⟨ra, rb, q⟩)
      exact Or.inr (sr_below (by omega) rb ⟨fun q => sr_expx (fun z => h ⟨ra, rb, q, z⟩) h3, fun _ => h3⟩)
    · exact Or.inl (sr_belowx (by omega) rb (h1 (fun q => rb q.2)))
  · exact Or.inl (sr_belowx (by omega) ra (h1 (fun q => ra q.1)))
theorem mi_multiply {n0 j1 j2 : Nat} {c m k x : Int32} {ex : Nat → Int32} {post : Int32 → Int32 → Int32 → (Nat → Int32) → Prop} (hn : n0 ≤ 4) (h1 : j1 < n0) (h2 : j2 < n0) (hne : j1 ≠ j2) (hx : x.toInt.natAbs ≤ 5) (hp1 : (∀ l, l < 4 → (mu_S j1 j2 x ex l).toInt.natAbs ≤ 5) → post 1 0 0 (mu_z j1 j2 x ex 4)) (hp0 : (¬ ∀ l, l < 4 → (mu_S j1 j2 x ex l).toInt.natAbs ≤ 5) → post 0 0 k ex) : wp_MD_multiply c (nI n0) m k ex (nI j1) (nI j2) x post := by
  refine mi_isEl hn (fun _ => ⟨fun q => absurd q (by decide), fun _ => mi_isEl hn (fun _ => ⟨fun _ => ⟨fun q => ?_, fun _ => mi_in5 (fun _ => ⟨fun _ => ⟨fun _ => ?_, fun q => absurd (show (0 : Int32) ≤ 0 by decide) q⟩, fun q => absurd q (by decide)⟩) (fun q => absurd hx q)⟩, fun q => absurd q (by decide)⟩) (fun q => absurd ⟨j2, h2, rfl⟩ q)⟩) (fun q => absurd ⟨j1, h1, rfl⟩ q)
  · have := (pz_eq (by omega) (by omega)).mp q; omega
  intro P hP
  have key2 : (∀ l, l < 4 → (mu_S j1 j2 x ex l).toInt.natAbs ≤ 5) → wp_MD_multiply_115 0 (nI n0) m k (nI j1) (nI j2) x post ex 0 := by
    intro hall Q hQ
    have key : ∀ d c, c + d = 4 → Q (mu_z j1 j2 x ex c) (nI c) := by
      intro d
      induction d with
      | zero =>
        intro c hc
        refine hQ _ _ ⟨fun _ => ?_, fun q => absurd ((fi_4 (by omega)).mpr (by omega)) q⟩
        rw [show c = 4 by omega]; exact hp1 hall
      | succ d ih =>
        intro c hc
        refine hQ _ _ ⟨fun q => ?_, fun _ w hw => ?_⟩
        · have := (fi_4 (by omega)).mp q; omega
        rw [hw, pz_4', pz_4', pz_c (by omega), pz_c (by omega)]
        refine ⟨pz_in (by omega) (by omega), pz_in (by omega) (by omega), pz_in (by omega) (by omega), fun g hg v hv => ?_⟩
        rw [hv, nI_1, hg, mu_s hne (by omega)]
        exact ih (c + 1) (by omega)
    have := key 4 0 (by omega)
    rw [mu_0] at this
    exact this
  have key : ∀ d c, c + d = 4 → (∀ l, l < c → (mu_S j1 j2 x ex l).toInt.natAbs ≤ 5) → P (nI c) := by
    intro d
    induction d with
    | zero =>
      intro c hc hl
      exact hP _ ⟨fun _ => key2 (fun l h => hl l (by omega)), fun q => absurd ((fi_4 (by omega)).mpr (by omega)) q⟩
    | succ d ih =>
      intro c hc hl
      refine hP _ ⟨fun q => ?_, fun _ => ?_⟩
      · have := (fi_4 (by omega)).mp q; omega
      rw [pz_4', pz_4', pz_c (by omega), pz_c (by omega)]
      refine ⟨pz_in (by omega) (by omega), pz_in (by omega) (by omega), mi_in5 (fun q => ⟨fun _ w hw => ?_, fun q => absurd q (by decide)⟩) (fun q => ⟨fun z => absurd rfl z, fun _ => hp0 (fun z => q (z c (by omega)))⟩)⟩
      rw [hw, nI_1]
      refine ih (c + 1) (by omega) (fun l h => ?_)
      rcases (show l < c ∨ l = c by omega) with z | z
      · exact hl l z
      · rw [z]; exact q
  exact key 4 0 (by omega) (fun l h => by omega)
theorem mi_multiplyx {n0 : Nat} {c m k a b x : Int32} {ex : Nat → Int32} {post : Int32 → Int32 → Int32 → (Nat → Int32) → Prop} (hn : n0 ≤ 4) (h1 : ¬ (rg a n0 ∧ rg b n0) → post 0 1 k ex) (h2 : rg a n0 ∧ rg b n0 → ¬ (¬ a = b ∧ x.toInt.natAbs ≤ 5) → post 0 2 k ex) (h : ¬ (rg a n0 ∧ rg b n0 ∧ ¬ a = b ∧ x.toInt.natAbs ≤ 5)) : wp_MD_multiply c (nI n0) m k ex a b x post := by
  have z1 : ¬ (rg a n0 ∧ rg b n0) → wp_MD_multiply_17 (nI n0) m a b x post c k ex := fun q => ⟨fun q => absurd q (by decide), fun _ => h1 q⟩
  have z2 : rg a n0 ∧ rg b n0 → wp_MD_multiply_40 (nI n0) m a b x post c k ex := fun q => ⟨fun q => absurd q (by decide), fun _ => h2 q (fun y => h ⟨q.1, q.2, y⟩)⟩
  exact mi_isEl hn (fun ra => ⟨fun q => absurd q (by decide), fun _ => mi_isEl hn (fun rb => ⟨fun _ => ⟨fun _ => z2 ⟨ra, rb⟩, fun ne => mi_in5 (fun q => absurd ⟨ra, rb, ne, q⟩ h) (fun _ => ⟨fun q => absurd rfl q, fun _ => z2 ⟨ra, rb⟩⟩)⟩, fun q => absurd q (by decide)⟩) (fun rb => ⟨fun q => absurd rfl q, fun _ => z1 (fun y => rb y.2)⟩)⟩) (fun ra => ⟨fun _ => z1 (fun y => ra y.1), fun q => absurd rfl q⟩)
/-! what the reference has told -/
theorem mi_told {r i j : Nat} {e c k : Int32} {td : Nat → Int64} {post : Int64 → Int32 → Prop} (hr : r ≤ 4) (hi : i < r) (hj : j < 4) (hp : post (td (4 * i + j)) 0) : wp_MD_toldAt c e (nI r) k td (nI i) (nI j) 1 post := by
  refine ⟨fun q => absurd q (by decide), fun _ => mi_rg (by omega) (fun _ => ⟨fun q => absurd q (by decide), fun _ => ⟨fun _ => ?_, fun q => absurd (show (0 : Int32) ≤ 0 by decide) q⟩⟩) (fun q => absurd ⟨i, hi, rfl⟩ q)⟩
  rw [pz_4', pz_c (by omega)]
  exact ⟨pz_in (by omega) (by omega), hp⟩
theorem mi_toldx {r : Nat} {a b f e c k : Int32} {td : Nat → Int64} {post : Int64 → Int32 → Prop} (hr : r ≤ 4) (h : f = 0 ∨ ¬ rg a r) (hp : post 0 1) : wp_MD_toldAt c e (nI r) k td a b f post := by
  have z : wp_MD_toldAt_25 e (nI r) k td a b post c := ⟨fun q => absurd q (by decide), fun _ => hp⟩
  refine ⟨fun _ => z, fun q => mi_rg (by omega) (fun ra => ?_) (fun _ => ⟨fun _ => z, fun q => absurd rfl q⟩)⟩
  rcases h with h | h
  · exact absurd h q
  · exact absurd ra h
