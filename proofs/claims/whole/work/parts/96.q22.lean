/-! Ranges, and the operations that write. -/
def rg (a : Int32) (n : Nat) : Prop := ∃ j, j < n ∧ a = nI j
theorem rg_iff {a : Int32} {n : Nat} (hn : n ≤ 1000) : rg a n ↔ 0 ≤ a.toInt ∧ a.toInt < (n : Int) := by
  constructor
  · rintro ⟨j, hj, rfl⟩
    rw [nI_toInt (by omega)]; omega
  · rintro ⟨h0, h1⟩
    obtain ⟨j, hj, e⟩ := nI_of (x := a) (by rw [Int32.lt_iff_toInt_lt]; show ¬ a.toInt < 0; omega)
    refine ⟨j, ?_, e⟩
    rw [e, nI_toInt hj] at h1; omega
theorem rg_lt {a : Int32} {n : Nat} (hn : n ≤ 1000) : (¬ a < 0 ∧ a < nI n) ↔ rg a n := by
  rw [rg_iff hn, Int32.lt_iff_toInt_lt, Int32.lt_iff_toInt_lt, nI_toInt (by omega)]
  show (¬ a.toInt < 0 ∧ _) ↔ _
  omega
theorem sr_below {a : Int32} {n : Nat} {post : Prop} (hn : n ≤ 1000) (h : rg a n) (hp : post) : wp_SR_requireBelow a (nI n) post := by
  have := (rg_lt hn).mpr h
  exact ⟨fun q => absurd q this.1, fun _ => ⟨fun _ => hp, fun q => absurd this.2 q⟩⟩
theorem sr_belowx {a : Int32} {n : Nat} {px : String → Prop} (hn : n ≤ 1000) (h : ¬ rg a n) (hp : px "java/lang/IndexOutOfBoundsException") : wp_SR_requireBelowx a (nI n) px :=
  ⟨fun _ => hp, fun q => ⟨fun q2 => h ((rg_lt hn).mp ⟨q, q2⟩), fun _ => hp⟩⟩
theorem sr_isExp {a : Int32} {post : Int32 → Prop} (h1 : a.toInt.natAbs ≤ 5 → post 1) (h0 : ¬ a.toInt.natAbs ≤ 5 → post 0) : wp_SR_isExponent a post := by
  unfold wp_SR_isExponent
  rw [Int32.lt_iff_toInt_lt, Int32.lt_iff_toInt_lt, show (-5 : Int32).toInt = -5 from rfl, show (5 : Int32).toInt = 5 from rfl]
  exact ⟨fun q => h0 (by omega), fun q => ⟨fun q2 => h0 (by omega), fun q2 => h1 (by omega)⟩⟩
theorem sr_exp {a : Int32} {post : Prop} (h : a.toInt.natAbs ≤ 5) (hp : post) : wp_SR_requireExponent a post :=
  sr_isExp (fun _ => ⟨fun _ => hp, fun q => absurd q (by decide)⟩) (fun q => absurd h q)
theorem sr_expx {a : Int32} {px : String → Prop} (h : ¬ a.toInt.natAbs ≤ 5) (hp : px "java/lang/IllegalArgumentException") : wp_SR_requireExponentx a px :=
  sr_isExp (fun q => absurd q h) (fun _ => ⟨fun q => absurd rfl q, fun _ => hp⟩)
theorem mi_rg {a : Int32} {n : Nat} {post : Int32 → Prop} (hn : n ≤ 1000) (h1 : rg a n → post 1) (h0 : ¬ rg a n → post 0) : wp_MD_in a.toInt64 0 ((nI n - 1).toInt64) post := by
  have e : (nI n - 1).toInt = (n : Int) - 1 := by
    cases n with
    | zero => rfl
    | succ n => rw [nI_pred, nI_toInt (by omega)]; omega
  have e0 : (0 : Int64).toInt = 0 := rfl
  refine mi_in (fun q q2 => h1 ?_) (fun q => h0 ?_)
  · rw [Int32.toInt_toInt64, e] at q2; rw [e0] at q
    rw [rg_iff hn]; omega
  · rw [Int32.toInt_toInt64, e, e0] at q
    rw [rg_iff hn]; omega
theorem mi_rg4 {a : Int32} {post : Int32 → Prop} (h1 : rg a 4 → post 1) (h0 : ¬ rg a 4 → post 0) : wp_MD_in a.toInt64 0 3 post := mi_rg (n := 4) (by omega) h1 h0
theorem mi_isEl {a : Int32} {n0 : Nat} {c m k : Int32} {post : Int32 → Prop} (hn : n0 ≤ 4) (h1 : rg a n0 → post 1) (h0 : ¬ rg a n0 → post 0) : wp_MD_isElement c (nI n0) m k a post :=
  mi_rg (by omega) (fun q => ⟨fi_bool1.1, h1 q⟩) (fun q => ⟨fi_bool0.1, h0 q⟩)
/-! element -/
def el_z (n0 : Nat) (ex : Nat → Int32) : Nat → Int32 := fun j => if 4 * n0 ≤ j ∧ j < 4 * n0 + 4 then 0 else ex j
theorem pz_upd {f : Nat → Int32} {k j : Nat} {x : Int32} : upd f k x j = if j = k then x else f j := rfl
theorem sr_element {n0 : Nat} {s kk : Int32} {ex : Nat → Int32} {post : Int32 → Int32 → Int32 → (Nat → Int32) → Int32 → Prop} (hn : n0 < 4) (hp : post (nI n0) (nI (n0 + 1)) 0 (el_z n0 ex) 0) : wp_SR_element (nI n0) s ex kk post := by
  refine ⟨fun _ => ?_, fun q => absurd ((pz_lt (b := 4) (by omega) (by omega)).mpr hn) q⟩
  intro P hP
  have key : ∀ d c g, c + d = 4 → (∀ j, g j = if 4 * n0 ≤ j ∧ j < 4 * n0 + c then 0 else ex j) → P g (nI c) := by
    intro d
    induction d with
    | zero =>
      intro c g hc hg
      refine hP g (nI c) ⟨fun _ v hv => ?_, fun q => absurd ((fi_4 (by omega)).mpr (by omega)) q⟩
      rw [hv, nI_1]
      show post (nI (n0 + 1) - 1) (nI (n0 + 1)) 0 g 0
      rw [nI_pred, show g = el_z n0 ex from funext (fun j => by rw [hg j, el_z]; exact pz_ite (by omega))]
      exact hp
    | succ d ih =>
      intro c g hc hg
      refine hP g (nI c) ⟨fun q => ?_, fun _ => ?_⟩
      · have := (fi_4 (by omega)).mp q; omega
      rw [pz_4, pz_c (by omega)]
      refine ⟨pz_in (by omega) (by omega), fun w hw v hv => ?_⟩
      rw [hv, nI_1]
      refine ih (c + 1) w (by omega) (fun j => ?_)
      rw [hw, pz_upd]
      by_cases e : j = 4 * n0 + c
      · rw [if_pos e, if_pos (by omega)]
      · rw [if_neg e, hg j]; exact pz_ite (by omega)
  exact key 4 0 ex (by omega) (fun j => by rw [if_neg (by omega)])
theorem sr_elementx {s kk : Int32} {ex : Nat → Int32} {px : String → Int32 → Int32 → (Nat → Int32) → Int32 → Prop} (hp : px "java/lang/IllegalStateException" (nI 4) s ex kk) : wp_SR_elementx (nI 4) s ex kk px :=
  ⟨fun q => absurd q (by decide), fun _ => hp⟩
theorem mi_element {n0 : Nat} {c m k : Int32} {ex : Nat → Int32} {post : Int32 → Int32 → Int32 → Int32 → (Nat → Int32) → Prop} (hn : n0 < 4) (hp : post (nI n0) 0 (nI (n0 + 1)) 0 (el_z n0 ex)) : wp_MD_element c (nI n0) m k ex post := by
  refine ⟨fun _ => ⟨fun _ => ?_, fun q => absurd (show (0 : Int32) ≤ 0 by decide) q⟩, fun q => ?_⟩
  · intro P hP
    have key : ∀ d c g, c + d = 4 → (∀ j, g j = if 4 * n0 ≤ j ∧ j < 4 * n0 + c then 0 else ex j) → P g (nI c) := by
      intro d
      induction d with
      | zero =>
        intro c g hc hg
        refine hP g (nI c) ⟨fun _ v hv => ?_, fun q => absurd ((fi_4 (by omega)).mpr (by omega)) q⟩
        rw [hv, nI_1, nI_pred, show g = el_z n0 ex from funext (fun j => by rw [hg j, el_z]; exact pz_ite (by omega))]
        exact hp
      | succ d ih =>
        intro c g hc hg
        refine hP g (nI c) ⟨fun q => ?_, fun _ => ?_⟩
        · have := (fi_4 (by omega)).mp q; omega
        rw [pz_4', pz_c (by omega)]
        refine ⟨pz_in (by omega) (by omega), fun w hw v hv => ?_⟩
        rw [hv, nI_1]
        refine ih (c + 1) w (by omega) (fun j => ?_)
        rw [hw, pz_upd]
        by_cases e : j = 4 * n0 + c
        · rw [if_pos e, if_pos (by omega)]
        · rw [if_neg e, hg j]; exact pz_ite (by omega)
    exact key 4 0 ex (by omega) (fun j => by rw [if_neg (by omega)])
  · have := (pz_eq (b := 4) (by omega) (by omega)).mp q; omega
theorem mi_elementx {c m k : Int32} {ex : Nat → Int32} {post : Int32 → Int32 → Int32 → Int32 → (Nat → Int32) → Prop} (hp : post 0 1 (nI 4) k ex) : wp_MD_element c (nI 4) m k ex post :=
  ⟨fun q => absurd rfl q, fun _ => ⟨fun q => absurd q (by decide), fun _ => hp⟩⟩
theorem el_ok {n0 : Nat} {ex : Nat → Int32} (hn : n0 < 4) (h : st_ok n0 ex) : st_ok (n0 + 1) (el_z n0 ex) := by
  refine ⟨by omega, fun e l he hl => ?_⟩
  unfold el_z
  split
  · decide
  · exact h.2 e l (by omega) hl
/-! put -/
theorem sr_put {n0 e l : Nat} {s kk x : Int32} {ex : Nat → Int32} {post : Int32 → Int32 → (Nat → Int32) → Int32 → Prop} (hn : n0 ≤ 4) (he : e < n0) (hl : l < 4) (hx : x.toInt.natAbs ≤ 5) (h1 : ¬ ex (4 * e + l) = x → post 1 0 (upd ex (4 * e + l) x) 0) (h0 : ex (4 * e + l) = x → post 0 s ex kk) : wp_SR_put (nI n0) s ex kk (nI e) (nI l) x post := by
  refine sr_below (by omega) ⟨e, he, rfl⟩ (sr_below (n := 4) (by omega) ⟨l, hl, rfl⟩ (sr_exp hx (fun v hv => ?_)))
  rw [hv, pz_4, pz_c (by omega)]
  refine ⟨pz_in (by omega) (by omega), fun q => ⟨pz_in (by omega) (by omega), fun w hw => ?_⟩, h0⟩
  rw [hw]; exact h1 q
theorem sr_putx {n0 : Nat} {s kk a b x : Int32} {ex : Nat → Int32} {px : String → Int32 → (Nat → Int32) → Int32 → Prop} (hn : n0 ≤ 4) (h1 : ¬ (rg a n0 ∧ rg b 4) → px "java/lang/IndexOutOfBoundsException" s ex kk) (h2 : rg a n0 ∧ rg b 4 → ¬ x.toInt.natAbs ≤ 5 → px "java/lang/IllegalArgumentException" s ex kk) (h : ¬ (rg a n0 ∧ rg b 4 ∧ x.toInt.natAbs ≤ 5)) : wp_SR_putx (nI n0) s ex kk a b x px := by
  by_cases ra : rg a n0
  · refine Or.inr (sr_below (by omega) ra ?_)
    by_cases rb : rg b 4
    · exact Or.inr (sr_below (n := 4) (by omega) rb (sr_expx (fun q => h ⟨ra, rb, q⟩) (h2 ⟨ra, rb⟩ (fun q => h ⟨ra, rb, q⟩))))
    · exact Or.inl (sr_belowx (n := 4) (by omega) rb (h1 (fun q => rb q.2)))
  · exact Or.inl (sr_belowx (by omega) ra (h1 (fun q => ra q.1)))
theorem mi_put {n0 e l : Nat} {c m k x : Int32} {ex : Nat → Int32} {post : Int32 → Int32 → Int32 → (Nat → Int32) → Prop} (hn : n0 ≤ 4) (he : e < n0) (hl : l < 4) (hx : x.toInt.natAbs ≤ 5) (h1 : ¬ ex (4 * e + l) = x → post 1 0 0 (upd ex (4 * e + l) x)) (h0 : ex (4 * e + l) = x → post 0 0 k ex) : wp_MD_put c (nI n0) m k ex (nI e) (nI l) x post := by
  refine mi_isEl hn (fun _ => ⟨fun q => absurd q (by decide), fun _ => mi_rg4 (fun _ => ⟨fun _ => mi_in5 (fun _ => ⟨fun q => absurd q (by decide), fun _ => ?_⟩) (fun q => absurd hx q), fun q => absurd q (by decide)⟩) (fun q => absurd ⟨l, hl, rfl⟩ q)⟩) (fun q => absurd ⟨e, he, rfl⟩ q)
  refine ⟨fun q => absurd q (by decide), fun _ => ?_⟩
  rw [pz_4', pz_c (by omega)]
  refine ⟨pz_in (by omega) (by omega), fun q => ⟨pz_in (by omega) (by omega), fun w hw => ?_⟩, h0⟩
  rw [hw]; exact h1 q
theorem mi_putx {n0 : Nat} {c m k a b x : Int32} {ex : Nat → Int32} {post : Int32 → Int32 → Int32 → (Nat → Int32) → Prop} (hn : n0 ≤ 4) (h1 : ¬ (rg a n0 ∧ rg b 4) → post 0 1 k ex) (h2 : rg a n0 ∧ rg b 4 → ¬ x.toInt.natAbs ≤ 5 → post 0 2 k ex) (h : ¬ (rg a n0 ∧ rg b 4 ∧ x.toInt.natAbs ≤ 5)) : wp_MD_put c (nI n0) m k ex a b x post := by
  refine mi_isEl hn (fun ra => ⟨fun q => absurd q (by decide), fun _ => mi_rg4 (fun rb => ⟨fun _ => mi_in5 (fun q => absurd ⟨ra, rb, q⟩ h) (fun q => ⟨fun _ => ⟨fun _ => h2 ⟨ra, rb⟩ q, fun q => absurd (show (0 : Int32) < 2 by decide) q⟩, fun q => absurd rfl q⟩), fun q => absurd q (by decide)⟩) (fun q => ⟨fun z => absurd rfl z, fun _ => ⟨fun _ => h1 (fun y => q y.2), fun z => absurd (show (0 : Int32) < 1 by decide) z⟩⟩)⟩) (fun q => ⟨fun _ => ⟨fun _ => h1 (fun y => q y.1), fun z => absurd (show (0 : Int32) < 1 by decide) z⟩, fun z => absurd rfl z⟩)
theorem pu_ok {n0 k : Nat} {ex : Nat → Int32} {x : Int32} (hx : x.toInt.natAbs ≤ 5) (h : st_ok n0 ex) : st_ok n0 (upd ex k x) := by
  refine ⟨h.1, fun e l he hl => ?_⟩
  rw [pz_upd]
  split
  · exact hx
  · exact h.2 e l he hl
/-! at -/
theorem sr_at {n0 e l : Nat} {s : Int32} {ex : Nat → Int32} {post : Int32 → Prop} (hn : n0 ≤ 4) (he : e < n0) (hl : l < 4) (hp : post (ex (4 * e + l))) : wp_SR_at (nI n0) s ex (nI e) (nI l) post := by
  refine sr_below (by omega) ⟨e, he, rfl⟩ (sr_below (n := 4) (by omega) ⟨l, hl, rfl⟩ ?_)
  rw [pz_4, pz_c (by omega)]
  exact ⟨pz_in (by omega) (by omega), hp⟩
theorem sr_atx {n0 : Nat} {s a b : Int32} {ex : Nat → Int32} {px : String → Prop} (hn : n0 ≤ 4) (hp : px "java/lang/IndexOutOfBoundsException") (h : ¬ (rg a n0 ∧ rg b 4)) : wp_SR_atx (nI n0) s ex a b px := by
  by_cases ra : rg a n0
  · exact Or.inr (sr_below (by omega) ra (sr_belowx (n := 4) (by omega) (fun q => h ⟨ra, q⟩) hp))
  · exact Or.inl (sr_belowx (by omega) ra hp)
theorem mi_at {n0 e l : Nat} {c m k : Int32} {ex : Nat → Int32} {post : Int32 → Int32 → Prop} (hn : n0 ≤ 4) (he : e < n0) (hl : l < 4) (hp : post (ex (4 * e + l)) 0) : wp_MD_at c (nI n0) m k ex (nI e) (nI l) post := by
  refine mi_isEl hn (fun _ => ⟨fun q => absurd q (by decide), fun _ => mi_rg4 (fun _ => ⟨fun q => absurd q (by decide), fun _ => ⟨fun _ => ?_, fun q => absurd (show (0 : Int32) ≤ 0 by decide) q⟩⟩) (fun q => absurd ⟨l, hl, rfl⟩ q)⟩) (fun q => absurd ⟨e, he, rfl⟩ q)
  rw [pz_4', pz_c (by omega)]
  exact ⟨pz_in (by omega) (by omega), hp⟩
theorem mi_atx {n0 : Nat} {c m k a b : Int32} {ex : Nat → Int32} {post : Int32 → Int32 → Prop} (hn : n0 ≤ 4) (hp : post 0 1) (h : ¬ (rg a n0 ∧ rg b 4)) : wp_MD_at c (nI n0) m k ex a b post :=
  mi_isEl hn (fun ra => ⟨fun q => absurd q (by decide), fun _ => mi_rg4 (fun rb => absurd ⟨ra, rb⟩ h) (fun _ => ⟨fun _ => ⟨fun q => absurd q (by decide), fun _ => hp⟩, fun q => absurd rfl q⟩)⟩) (fun _ => ⟨fun _ => ⟨fun q => absurd q (by decide), fun _ => hp⟩, fun q => absurd rfl q⟩)
