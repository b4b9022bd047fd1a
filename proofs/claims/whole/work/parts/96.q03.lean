/-! settle of the reference: stairs by the place where they begin. -/
theorem pz_8' (a b : Nat) : 8 * nI a + nI b = nI (8 * a + b) := by
  rw [show (8 : Int32) = nI 8 from rfl, pk_mul, nI_add]
/-- rows k of Z lie at the places p k -/
def mi_Rep (r : Nat) (p : Nat → Nat) (f : Nat → Int64) (g : Nat → Int32) (Z : Nat → Nat → Int) : Prop :=
  (∀ k c, k < r → c < 8 → f (8 * p k + c) = Int64.ofInt (Z k c)) ∧ ∀ j, j < 8 → (g j ≠ 0 ↔ ∃ k, k < r ∧ p k = j)
theorem mi_sub {c e m k : Int32} {g : Nat → Int32} {a b : Nat} {q : Int64} {post : (Nat → Int64) → Prop} {K3 K11 : (Nat → Int64) → Int32 → Prop} {f : Nat → Int64} (ha : a < b) (hb : b < 8)
    (h : ∀ f', (∀ x y, x < 8 → y < 8 → f' (8 * x + y) = if x = a ∧ b ≤ y then f (8 * a + y) - q * f (8 * b + y) else f (8 * x + y)) → K11 f' (nI (b + 1))) : wp_MD_settle_91 c e m k g (nI a) (nI b) q post K3 K11 f (nI b) := by
  intro P hP
  have key : ∀ (d y : Nat) (f1 : Nat → Int64), y + d = 8 → b ≤ y → (∀ x z, x < 8 → z < 8 → f1 (8 * x + z) = if x = a ∧ b ≤ z ∧ z < y then f (8 * a + z) - q * f (8 * b + z) else f (8 * x + z)) → P f1 (nI y) := by
    intro d
    induction d with
    | zero =>
      intro y f1 hy hby h1
      refine hP f1 (nI y) ⟨fun _ => ?_, fun w => ?_⟩
      · intro v hv
        rw [hv, nI_1]
        refine h f1 (fun x z hx hz => ?_)
        rw [h1 x z hx hz]
        exact pz_ite (by omega)
      · rw [show (8 : Int32) = nI 8 from rfl, pz_le (by omega) (by omega)] at w; omega
    | succ d ih =>
      intro y f1 hy hby h1
      refine hP f1 (nI y) ⟨fun w => ?_, fun _ v hv => ?_⟩
      · rw [show (8 : Int32) = nI 8 from rfl, pz_le (by omega) (by omega)] at w; omega
      rw [pz_8'] at hv ⊢
      subst hv
      refine ⟨pz_in (by omega) (by omega), pz_in (by omega) (by omega), pz_in (by omega) (by omega), fun w hw v2 hv2 => ?_⟩
      rw [hv2, nI_1]
      rw [pz_c (by omega), pz_c (by omega)] at hw
      refine ih (y + 1) w (by omega) (by omega) (fun x z hx hz => ?_)
      have e1 : f1 (8 * a + y) = f (8 * a + y) := (h1 a y (by omega) (by omega)).trans (if_neg (by omega))
      have e2 : f1 (8 * b + y) = f (8 * b + y) := (h1 b y hb (by omega)).trans (if_neg (by omega))
      rw [e1, e2] at hw
      rw [hw, pz_updL]
      by_cases e3 : x = a ∧ z = y
      · rw [e3.1, e3.2, if_pos rfl]; exact (if_pos ⟨rfl, by omega, by omega⟩).symm
      · rw [if_neg (by omega), h1 x z hx hz]
        exact pz_ite (by omega)
  exact key (8 - b) b f (by omega) (Nat.le_refl _) (fun x z hx hz => (if_neg (by omega)).symm)
/-- how much is taken away at most -/
def mi_B (Z : Nat → Nat → Int) (κ s x : Nat) : Nat → Nat
  | 0 => 0
  | k + 1 => mi_B Z κ s x k + if s ≤ k then κ * 2 ^ (k - s) * (Z k x).natAbs else 0
theorem mi_B0 {Z : Nat → Nat → Int} {κ s x : Nat} : ∀ k, k ≤ s → mi_B Z κ s x k = 0 := by
  intro k
  induction k with
  | zero => intro _; rfl
  | succ k ih => intro h; rw [mi_B, ih (by omega), if_neg (by omega)]
theorem mi_Bc {Z Y : Nat → Nat → Int} {κ s x : Nat} : ∀ k, (∀ l, s ≤ l → l < k → Z l x = Y l x) → mi_B Z κ s x k = mi_B Y κ s x k := by
  intro k
  induction k with
  | zero => intro _; rfl
  | succ k ih =>
    intro h
    rw [mi_B, mi_B, ih (fun l a b => h l a (by omega))]
    by_cases e : s ≤ k
    · rw [if_pos e, if_pos e, h k e (by omega)]
    · rw [if_neg e, if_neg e]
/-- what is asked of row i: reduced ahead of row s, from there on at most κ times the beginnings -/
def mi_K (r : Nat) (p : Nat → Nat) (Z : Nat → Nat → Int) (i s κ : Nat) : Prop :=
  (∀ l, i < l → l < r → l < s → 0 ≤ Z i (p l) ∧ Z i (p l) < Z l (p l)) ∧ (∀ l, i < l → s ≤ l → l < r → (Z i (p l)).natAbs ≤ κ * (Z l (p l)).natAbs) ∧ (∀ l, i < l → s ≤ l → l < r → (l = s ∧ (Z i (p l)).natAbs < 2305843009213693952) ∨ κ * 2 ^ (l - s) * (Z l (p l)).natAbs < 2305843009213693952)
/-- the reference's quotient is the floor -/
theorem mi_floor {v d : Int} (hd : 0 < d) (hv : v < 0) : -((d - 1 - v).tdiv d) = v / d := by
  rw [Int.tdiv_eq_ediv_of_nonneg (by omega)]
  have h1 := Int.emod_nonneg v (show d ≠ 0 by omega)
  have h2 := Int.emod_lt_of_pos v hd
  have h3 := Int.mul_ediv_add_emod v d
  have e := (Int.ediv_emod_unique (a := d - 1 - v) (b := d) (r := d - 1 - v % d) (q := -(v / d)) (by omega)).mpr ⟨by
    have : d * -(v / d) = -(d * (v / d)) := Int.mul_neg _ _
    omega, by omega, by omega⟩
  omega
/-- between the steps of row i: those up to l are done -/
def mi_Row (r : Nat) (p : Nat → Nat) (Z : Nat → Nat → Int) (i s κ l : Nat) (Y : Nat → Nat → Int) : Prop :=
  (∀ k, k ≠ i → Y k = Z k) ∧ (∀ x, x ≤ p i → Y i x = Z i x) ∧ (∀ k, i < k → k < l → 0 ≤ Y i (p k) ∧ Y i (p k) < Z k (p k)) ∧ (∀ k, l ≤ k → k < r → k < s → 0 ≤ Y i (p k) ∧ Y i (p k) < Z k (p k)) ∧
  (∀ k, l ≤ k → s ≤ k → k < r → (Y i (p k)).natAbs ≤ κ * 2 ^ (l - s) * (Z k (p k)).natAbs) ∧ (∀ x, x < 8 → (Y i x).natAbs ≤ (Z i x).natAbs + mi_B Z κ s x l) ∧ (∀ k, r ≤ k → hn_Same 8 k Z Y) ∧ (l ≤ s → Y i = Z i)
theorem mi_Row0 {r : Nat} {p : Nat → Nat} {Z : Nat → Nat → Int} {i s κ : Nat} (hs : i < s) (h : mi_K r p Z i s κ) : mi_Row r p Z i s κ (i + 1) Z := by
  refine ⟨fun _ _ => rfl, fun _ _ => rfl, fun k a b => by omega, fun k a b c => h.1 k (by omega) b c, fun k a b c => ?_, fun x hx => Nat.le_add_right _ _, fun k _ => hn_Same_rf, fun _ => rfl⟩
  rw [show i + 1 - s = 0 by omega, Nat.pow_zero, Nat.mul_one]
  exact h.2.1 k (by omega) b c
theorem mi_zt0 (Y : Nat → Nat → Int) (i l : Nat) : pr_zt Y i l 0 = Y := by
  funext a b
  unfold pr_zt
  split
  · rename_i e; rw [e]; omega
  · rfl
theorem mi_Row_s {r : Nat} {p : Nat → Nat} {Z Y : Nat → Nat → Int} {i s κ l : Nat} (hE : pr_Ech 8 r p Z) (hred : ∀ k m, i < k → k < m → m < r → 0 ≤ Z k (p m) ∧ Z k (p m) < Z m (p m)) (hi : i < l) (hl : l < r) (h : mi_Row r p Z i s κ l Y) :
    mi_Row r p Z i s κ (l + 1) (pr_zt Y i l (Y i (p l) / Z l (p l))) := by
  obtain ⟨h1, h2, h3, h4, h5, h6, h7, h8⟩ := h
  have hpos := hE.2.2.2 l hl
  have hlt : p i < p l := hE.2.1 i l hi hl
  have eY : ∀ k, k ≠ i → ∀ q, pr_zt Y i l q k = Z k := fun k hk q => by funext b; simp [pr_zt, hk, h1 k hk]
  have eL := h1 l (by omega)
  rcases Nat.lt_or_ge l s with e | e
  · -- nothing to do
    have := h4 l (Nat.le_refl _) hl e
    rw [pr_q0 this.1 this.2, mi_zt0]
    refine ⟨h1, h2, fun k a b => ?_, fun k a b c => h4 k (by omega) b c, fun k a b c => ?_, fun x hx => ?_, h7, fun _ => h8 (by omega)⟩
    · rcases Nat.eq_or_lt_of_le (Nat.le_of_lt_succ b) with z | z
      · rw [z]; exact this
      · exact h3 k a z
    · have := h5 k (by omega) b c
      rw [show l - s = 0 by omega] at this
      rw [show l + 1 - s = 0 by omega]
      exact this
    · have := h6 x hx
      rw [mi_B0 l (by omega)] at this
      rw [mi_B0 (l + 1) (by omega)]
      exact this
  · have hq : (Y i (p l) / Z l (p l)).natAbs ≤ κ * 2 ^ (l - s) := pr_qle hpos (h5 l (Nat.le_refl _) e hl)
    have ei : ∀ x, pr_zt Y i l (Y i (p l) / Z l (p l)) i x = Y i x - Y i (p l) / Z l (p l) * Z l x := fun x => by simp [pr_zt, eL]
    refine ⟨fun k hk => eY k hk _, fun x hx => ?_, fun k a b => ?_, fun k a b c => by omega, fun k a b c => ?_, fun x hx => ?_, fun k hk => hn_Same_tr (h7 k hk) (pr_Same_t Y _ (by omega) (by omega) (by omega)), fun z => by omega⟩
    · rw [ei, hE.2.2.1 l x hl (by omega), Int.mul_zero, Int.sub_zero]; exact h2 x hx
    · rw [ei]
      rcases Nat.eq_or_lt_of_le (Nat.le_of_lt_succ b) with z | z
      · rw [z]
        have m1 := Int.emod_nonneg (Y i (p l)) (show Z l (p l) ≠ 0 by omega)
        have m2 := Int.emod_lt_of_pos (Y i (p l)) hpos
        have m3 := Int.mul_ediv_add_emod (Y i (p l)) (Z l (p l))
        have m4 : Y i (p l) / Z l (p l) * Z l (p l) = Z l (p l) * (Y i (p l) / Z l (p l)) := Int.mul_comm _ _
        omega
      · rw [hE.2.2.1 l (p k) hl (hE.2.1 k l z hl), Int.mul_zero, Int.sub_zero]; exact h3 k a z
    · rw [ei]
      have b1 := h5 k (by omega) b c
      have b2 := hred l k hi (by omega) c
      have b3 := pr_sub_le (Y := (Z k (p k)).natAbs) b1 hq (show (Z l (p k)).natAbs ≤ (Z k (p k)).natAbs by omega)
      have b4 : κ * 2 ^ (l + 1 - s) * (Z k (p k)).natAbs = κ * 2 ^ (l - s) * (Z k (p k)).natAbs + κ * 2 ^ (l - s) * (Z k (p k)).natAbs := by
        rw [show l + 1 - s = (l - s) + 1 by omega, Nat.pow_succ]; grind
      omega
    · rw [ei, mi_B, if_pos e]
      have b1 := pr_sub_le (h6 x hx) hq (Nat.le_refl (Z l x).natAbs)
      omega
theorem mi_q {v d : Int} (hd : 0 < d) (hs : d.natAbs < 2305843009213693952) (hv : v.natAbs < 2305843009213693952) {A B : Int64 → Prop} (h : ∀ q, q = Int64.ofInt (v / d) → A q ∧ B q) :
    ((lg_cmp (Int64.ofInt v) 0) < 0 → (¬ Int64.ofInt d = 0 ∧ A (-(((Int64.ofInt d - 1) - Int64.ofInt v) / Int64.ofInt d)))) ∧ (¬ (lg_cmp (Int64.ofInt v) 0) < 0 → (¬ Int64.ofInt d = 0 ∧ B (Int64.ofInt v / Int64.ofInt d))) := by
  have sd : pr_sm d := by unfold pr_sm; omega
  have sv : pr_sm v := by unfold pr_sm; omega
  have hd0 : ¬ Int64.ofInt d = 0 := fun e => by have := (pr_eq0 sd).mp e; omega
  have hc : (lg_cmp (Int64.ofInt v) 0) < 0 ↔ v < 0 := by
    have := pr_cmpge sv
    have h2 : (lg_cmp (Int64.ofInt v) 0) < 0 ↔ ¬ 0 ≤ (lg_cmp (Int64.ofInt v) 0) := Int32.not_le.symm
    rw [h2, this]; omega
  rw [hc]
  refine ⟨fun hv0 => ⟨hd0, ?_⟩, fun hv0 => ⟨hd0, ?_⟩⟩
  · have s1 : pr_sm (d - 1 - v) := by unfold pr_sm; omega
    have e : (Int64.ofInt d - 1) - Int64.ofInt v = Int64.ofInt (d - 1 - v) := by
      rw [Int64.ofInt_sub, Int64.ofInt_sub]; rfl
    rw [e, pr_tdiv s1 sd, ← Int64.ofInt_neg, mi_floor hd hv0]
    exact (h _ rfl).1
  · rw [pr_tdiv sv sd, Int.tdiv_eq_ediv_of_nonneg (by omega)]
    exact (h _ rfl).2
/-- one row of the reference's settle -/
theorem mi_row {r : Nat} {p : Nat → Nat} {Z : Nat → Nat → Int} {i s κ : Nat} {c e m k : Int32} {f : Nat → Int64} {g : Nat → Int32} {post : (Nat → Int64) → Prop} {K3 : (Nat → Int64) → Int32 → Prop}
    (hE : pr_Ech 8 r p Z) (hred : ∀ k m, i < k → k < m → m < r → 0 ≤ Z k (p m) ∧ Z k (p m) < Z m (p m)) (hi : i < r) (hs : i < s) (hK : mi_K r p Z i s κ) (hpv : ∀ l, l < r → (Z l (p l)).natAbs < 2305843009213693952) (hR : mi_Rep r p f g Z)
    (h : ∀ f' Y, mi_Rep r p f' g Y → mi_Row r p Z i s κ r Y → wp_MD_settle_140 c e m k g post K3 f' (nI (p i))) : wp_MD_settle_11 c e m k g (nI (p i)) post K3 f (nI (p i + 1)) := by
  intro P hP
  have hpi := hE.1 i hi
  have key : ∀ (d j l : Nat) (f1 : Nat → Int64) (Y : Nat → Nat → Int), j + d = 8 → p i < j → i < l → l ≤ r → (∀ x, x < l → p x < j) → (∀ x, l ≤ x → x < r → j ≤ p x) → mi_Rep r p f1 g Y → mi_Row r p Z i s κ l Y → P f1 (nI j) := by
    intro d
    induction d with
    | zero =>
      intro j l f1 Y hj hij hil hlr h1 h2 hR1 hY
      refine hP f1 (nI j) ⟨fun _ => ?_, fun w => ?_⟩
      · have : l = r := by
          rcases Nat.eq_or_lt_of_le hlr with z | z
          · exact z
          · have a := h2 l (Nat.le_refl _) z; have b := hE.1 l z; omega
        subst this
        exact h f1 Y hR1 hY
      · rw [show (8 : Int32) = nI 8 from rfl, pz_le (by omega) (by omega)] at w; omega
    | succ d ih =>
      intro j l f1 Y hj hij hil hlr h1 h2 hR1 hY
      refine hP f1 (nI j) ⟨fun w => ?_, fun _ => ⟨pz_in hpi (by omega), ?_⟩⟩
      · rw [show (8 : Int32) = nI 8 from rfl, pz_le (by omega) (by omega)] at w; omega
      rw [pz_c (by omega)]
      refine ⟨fun w => absurd w ((hR1.2 (p i) hpi).mpr ⟨i, hi, rfl⟩), fun _ => ⟨pz_in (by omega) (by omega), ?_⟩⟩
      rw [pz_c (by omega)]
      refine ⟨fun w => ?_, fun w => ?_⟩
      · -- a beginning
        obtain ⟨x, hx, ex⟩ := (hR1.2 j (by omega)).mp w
        have hxl : x = l := by
          rcases Nat.lt_trichotomy x l with z | z | z
          · have := h1 x z; omega
          · exact z
          · have a := hE.2.1 l x z hx; have b := h2 l (Nat.le_refl _) (by omega); omega
        subst hxl
        subst ex
        have hYx : Y x = Z x := hY.1 x (by omega)
        rw [pz_8', pz_8']
        refine ⟨pz_in (by omega) (by omega), fun v hv => ⟨pz_in (by omega) (by omega), fun v2 hv2 => ?_⟩⟩
        rw [pz_c (by omega), hR1.1 x (p x) hx (by omega), hYx] at hv
        rw [pz_c (by omega), hR1.1 i (p x) hi (by omega)] at hv2
        rw [hv, hv2]
        have hpos := hE.2.2.2 x hx
        have hb : (Y i (p x)).natAbs < 2305843009213693952 := by
          rcases Nat.lt_or_ge x s with z | z
          · have a := hY.2.2.2.1 x (Nat.le_refl _) hx z
            have b := hpv x hx
            omega
          · have a := hY.2.2.2.2.1 x (Nat.le_refl _) z hx
            rcases hK.2.2 x hil z hx with b | b
            · rw [hY.2.2.2.2.2.2.2 (by omega)]; exact b.2
            · omega
        have go : ∀ q, q = Int64.ofInt (Y i (p x) / Z x (p x)) → wp_MD_settle_86 c e m k g (nI (p i)) post K3 P f1 (nI (p x)) q := by
          intro q hq
          refine mi_sub (by omega) (by omega) (fun f2 hf2 => ?_)
          refine ih (p x + 1) (x + 1) f2 _ (by omega) (by omega) (by omega) (by omega) (fun y hy => ?_) (fun y hy hyr => ?_) ?_ (mi_Row_s hE hred hil hx hY)
          · rcases Nat.eq_or_lt_of_le (Nat.le_of_lt_succ hy) with z | z
            · rw [z]; omega
            · have := h1 y z; omega
          · have := hE.2.1 x y (by omega) hyr; omega
          · refine ⟨fun k2 c2 hk2 hc2 => ?_, hR1.2⟩
            rw [hf2 (p k2) c2 (hE.1 k2 hk2) hc2]
            have inj : p k2 = p i → k2 = i := by
              intro z
              rcases Nat.lt_trichotomy k2 i with y | y | y
              · have := hE.2.1 k2 i y hi; omega
              · exact y
              · have := hE.2.1 i k2 y hk2; omega
            by_cases e1 : k2 = i
            · subst e1
              unfold pr_zt
              rw [if_pos rfl]
              by_cases e2 : p x ≤ c2
              · rw [if_pos ⟨rfl, e2⟩, hR1.1 k2 c2 hk2 hc2, hR1.1 x c2 hx hc2, hq, Int64.ofInt_sub, Int64.ofInt_mul]
              · rw [if_neg (by omega), hR1.1 k2 c2 hk2 hc2, hYx, hE.2.2.1 x c2 hx (by omega), Int.mul_zero, Int.sub_zero]
            · rw [if_neg (fun z => e1 (inj z.1)), hR1.1 k2 c2 hk2 hc2]
              unfold pr_zt
              rw [if_neg e1]
        exact mi_q hpos (hpv x hx) hb (A := fun q => wp_MD_settle_86 c e m k g (nI (p i)) post K3 P f1 (nI (p x)) q) (B := fun q => wp_MD_settle_86 c e m k g (nI (p i)) post K3 P f1 (nI (p x)) q) (fun q hq => ⟨go q hq, go q hq⟩)
      · -- no beginning
        have hno : ∀ x, x < r → p x ≠ j := fun x hx ex => absurd w ((hR1.2 j (by omega)).mpr ⟨x, hx, ex⟩)
        intro v hv
        rw [hv, nI_1]
        refine ih (j + 1) l f1 Y (by omega) (by omega) hil hlr (fun x hx => ?_) (fun x hx hxr => ?_) hR1 hY
        · have := h1 x hx; omega
        · have a := h2 x hx hxr; have b := hno x hxr; omega
  refine key (8 - (p i + 1)) (p i + 1) (i + 1) f Z (by omega) (by omega) (by omega) (by omega) (fun x hx => ?_) (fun x hx hxr => ?_) hR (mi_Row0 hs hK)
  · rcases Nat.eq_or_lt_of_le (Nat.le_of_lt_succ hx) with z | z
    · rw [z]; omega
    · have := hE.2.1 x i z hi; omega
  · have := hE.2.1 i x (by omega) hxr; omega
/-- the whole of it -/
theorem mi_settle {r : Nat} {p : Nat → Nat} {Z : Nat → Nat → Int} {S κ : Nat → Nat} {c e m k : Int32} {f : Nat → Int64} {g : Nat → Int32} {post : (Nat → Int64) → Prop}
    (hE : pr_Ech 8 r p Z) (hS : ∀ i, i < r → i < S i) (hK : ∀ i, i < r → mi_K r p Z i (S i) (κ i)) (hpv : ∀ l, l < r → (Z l (p l)).natAbs < 2305843009213693952) (hR : mi_Rep r p f g Z)
    (hp : ∀ f' Z', mi_Rep r p f' g Z' → hn_Base 8 r p Z' → (∀ i, r ≤ i → Z' i = Z i) → (∀ k, r ≤ k → hn_Same 8 k Z Z') → (∀ i, i < r → (r ≤ S i → Z' i = Z i) ∧ ∀ x, x < 8 → (Z' i x).natAbs ≤ (Z i x).natAbs + mi_B Z' (κ i) (S i) x r) → (∀ i x, i < r → x ≤ p i → Z' i x = Z i x) → post f') : wp_MD_settle c e m k f g post := by
  intro P hP
  -- rows from i on are done
  have key : ∀ (u i : Nat) (f1 : Nat → Int64) (Y : Nat → Nat → Int), u ≤ 8 → i ≤ r → (∀ x, x < i → p x < u) → (∀ x, i ≤ x → x < r → u ≤ p x) → mi_Rep r p f1 g Y → (∀ x, x < i ∨ r ≤ x → Y x = Z x) → (∀ x y, i ≤ x → x < y → y < r → 0 ≤ Y x (p y) ∧ Y x (p y) < Z y (p y)) → (∀ x y, x < r → y ≤ p x → Y x y = Z x y) → (∀ k, r ≤ k → hn_Same 8 k Z Y) →
      (∀ x, i ≤ x → x < r → (r ≤ S x → Y x = Z x) ∧ ∀ y, y < 8 → (Y x y).natAbs ≤ (Z x y).natAbs + mi_B Y (κ x) (S x) y r) → P f1 (nI u - 1) := by
    intro u
    induction u with
    | zero =>
      intro i f1 Y hu hir h1 h2 hR1 h3 h4 h5 h6 h7
      have hi0 : i = 0 := by
        rcases Nat.eq_zero_or_pos i with z | z
        · exact z
        · have := h1 0 z; omega
      subst hi0
      refine hP f1 _ ⟨fun _ => ?_, fun w => absurd (by decide) w⟩
      exact hp f1 Y hR1 ⟨hE.1, hE.2.1, fun x y hx hy => by rw [h5 x y hx (by omega)]; exact hE.2.2.1 x y hx hy, fun x hx => by rw [h5 x (p x) hx (Nat.le_refl _)]; exact hE.2.2.2 x hx, fun x y hxy hy => by rw [h5 y (p y) hy (Nat.le_refl _)]; exact h4 x y (by omega) hxy hy⟩ (fun x hx => h3 x (Or.inr hx)) h6 (fun x hx => h7 x (by omega) hx) h5
    | succ u ih =>
      intro i f1 Y hu hir h1 h2 hR1 h3 h4 h5 h6 h7
      have eu : nI (u + 1) - 1 = nI u := by
        rw [show (1 : Int32) = nI 1 from rfl, pz_sub (by omega)]; congr 1
      rw [eu]
      refine hP f1 (nI u) ⟨fun w => ?_, fun _ v hv => ?_⟩
      · rw [show (0 : Int32) = nI 0 from rfl, pz_lt (by omega) (by omega)] at w; omega
      rw [nI_1] at hv
      subst hv
      -- what follows behind the row
      have nx : ∀ f2, P f2 (nI u - 1) → wp_MD_settle_140 c e m k g post P f2 (nI u) := by
        intro f2 h v2 hv2
        rw [hv2]
        have : nI u + -1 = nI u - 1 := by rw [Int32.sub_eq_add_neg]
        rw [this]; exact h
      by_cases hb : ∃ x, x < r ∧ p x = u
      · obtain ⟨x, hx, ex⟩ := hb
        have hxi : x + 1 = i := by
          rcases Nat.lt_or_ge x i with z | z
          · rcases Nat.eq_or_lt_of_le (show x + 1 ≤ i from z) with y | y
            · exact y
            · have a := hE.2.1 x (x + 1) (by omega) (by omega); have b := h1 (x + 1) y; omega
          · have := h2 x z hx; omega
        subst hxi
        subst ex
        have hEY : pr_Ech 8 r p Y := ⟨hE.1, hE.2.1, fun a b ha hb => by rw [h5 a b ha (by omega)]; exact hE.2.2.1 a b ha hb, fun a ha => by rw [h5 a (p a) ha (Nat.le_refl _)]; exact hE.2.2.2 a ha⟩
        have pv : ∀ a, a < r → Y a (p a) = Z a (p a) := fun a ha => h5 a (p a) ha (Nat.le_refl _)
        have hYx := h3 x (Or.inl (by omega))
        have hKx := hK x hx
        have hKY : mi_K r p Y x (S x) (κ x) := ⟨fun l a b d => by rw [hYx, pv l b]; exact hKx.1 l a b d, fun l a b d => by rw [hYx, pv l d]; exact hKx.2.1 l a b d, fun l a b d => by rw [hYx, pv l d]; exact hKx.2.2 l a b d⟩
        refine mi_row hEY (fun a b h8 h9 h10 => by rw [pv b h10]; exact h4 a b (by omega) h9 h10) hx (hS x hx) hKY (fun l hl => by rw [pv l hl]; exact hpv l hl) hR1 (fun f2 Y2 hR2 hY2 => nx f2 ?_)
        obtain ⟨y1, y2, y3, y4, y5, y6, y7, y8⟩ := hY2
        refine ih x f2 Y2 (by omega) (by omega) (fun a ha => hE.2.1 a x ha hx) (fun a ha har => ?_) hR2 (fun a ha => ?_) (fun a b ha hab hb => ?_) (fun a b ha hb => ?_) (fun k2 hk2 => hn_Same_tr (h6 k2 hk2) (y7 k2 hk2)) (fun a ha har => ?_)
        · rcases Nat.eq_or_lt_of_le ha with z | z
          · rw [z]; exact Nat.le_refl _
          · have := hE.2.1 x a z har; omega
        · rw [y1 a (by omega)]; exact h3 a (by omega)
        · by_cases z : a = x
          · subst z
            have := y3 b hab hb
            rw [pv b hb] at this
            exact this
          · rw [y1 a z]; exact h4 a b (by omega) hab hb
        · by_cases z : a = x
          · subst z; rw [y2 b hb]; exact h5 a b ha hb
          · rw [y1 a z]; exact h5 a b ha hb
        · by_cases z : a = x
          · subst z
            refine ⟨fun q => by rw [y8 q, hYx], fun y hy => ?_⟩
            have := y6 y hy
            rw [hYx] at this
            rw [mi_Bc (Y := Y) r (fun l hl _ => by rw [y1 l (by have := hS a hx; omega)])]
            exact this
          · rw [y1 a z]
            have := h7 a (by omega) har
            refine ⟨this.1, fun y hy => ?_⟩
            rw [mi_Bc (Y := Y) r (fun l hl _ => by rw [y1 l (by have := hS a har; omega)])]
            exact this.2 y hy
      · -- no row begins there
        have hno : ∀ x, x < r → p x ≠ u := fun x hx ex => hb ⟨x, hx, ex⟩
        have g0 : g u = 0 := by
          rcases Classical.em (g u = 0) with z | z
          · exact z
          · exact absurd ((hR1.2 u (by omega)).mp z) hb
        have nxt : P f1 (nI u - 1) := ih i f1 Y (by omega) hir (fun x hx => by have a := h1 x hx; have b := hno x (by omega); omega) (fun x hx hxr => by have a := h2 x hx hxr; omega) hR1 h3 h4 h5 h6 h7
        intro P2 hP2
        refine hP2 f1 _ ⟨fun _ => nx f1 nxt, fun _ => ⟨pz_in (by omega) (by omega), fun _ => nx f1 nxt, fun w => ?_⟩⟩
        rw [pz_c (by omega)] at w
        exact absurd g0 w
  -- the place 7 has nothing behind it
  by_cases h7 : ∃ x, x < r ∧ p x = 7
  · obtain ⟨x, hx, ex⟩ := h7
    have hxr : x + 1 = r := by
      rcases Nat.eq_or_lt_of_le (show x + 1 ≤ r from hx) with y | y
      · exact y
      · have a := hE.2.1 x (x + 1) (by omega) y; have b := hE.1 (x + 1) y; omega
    refine key 7 x f Z (by omega) (by omega) (fun a ha => by have := hE.2.1 a x ha hx; omega) (fun a ha har => by rw [show a = x by omega, ex]; exact Nat.le_refl _) hR (fun _ _ => rfl) (fun a b ha hab hb => by omega) (fun _ _ _ _ => rfl) (fun _ _ => hn_Same_rf) (fun a ha har => ⟨fun _ => rfl, fun y hy => Nat.le_add_right _ _⟩)
  · refine key 7 r f Z (by omega) (Nat.le_refl _) (fun a ha => ?_) (fun a ha har => by omega) hR (fun _ _ => rfl) (fun a b ha hab hb => by omega) (fun _ _ _ _ => rfl) (fun _ _ => hn_Same_rf) (fun a ha har => by omega)
    have a1 := hE.1 a ha
    rcases Nat.eq_or_lt_of_le (show p a ≤ 7 by omega) with z | z
    · exact absurd ⟨a, ha, z⟩ h7
    · exact z
