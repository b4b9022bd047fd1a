/-! The loops over determinants. -/
theorem bt_and : ∀ C, C < 16 → ∀ l, l < 4 → ((nI C &&& ((1 : Int32) <<< (nI l &&& 31))) = 0 ↔ ¬ C / 2 ^ l % 2 = 1) := by decide
theorem bt_xor : ∀ C, C < 16 → ∀ l, l < 4 → C / 2 ^ l % 2 = 1 → nI C ^^^ ((1 : Int32) <<< (nI l &&& 31)) = nI (C - 2 ^ l) ∧ 2 ^ l ≤ C := by decide
theorem bt_shl : ∀ l, l < 5 → (1 : Int32) <<< (nI l &&& 31) = nI (2 ^ l) := by decide
theorem bt_or : ∀ n, n < 4 → ∀ a, a < 2 ^ n → nI (2 ^ n) ||| nI a = nI (2 ^ n + a) := by decide
theorem bt_shr : ∀ R, R < 16 → ∀ l, l < 4 → (((nI R >>> (nI l &&& 31)) &&& 1) = 0 ↔ ¬ R / 2 ^ l % 2 = 1) := by decide
theorem bt_big : ∀ R, R < 16 → ∀ n, n < 5 → ((nI R >>> (nI n &&& 31)) = 0 ↔ R < 2 ^ n) := by decide
theorem bt_count : ∀ n, n < 16 → ∀ {post : Int32 → Prop}, post (nI (dv_pc n)) → wp_IN_bitCount (nI n) post := by
  intro n hn post h v1 h1 v2 h2 v3 h3 v4 h4 v5 h5
  subst h1
  subst h2
  subst h3
  subst h4
  subst h5
  refine Eq.mp (congrArg post ?_) h
  clear h post
  revert n
  decide
theorem bt_bits : ∀ n, n < 16 → ∀ {post : Int32 → Prop}, post (nI (dv_pc n)) → wp_MD_bits (nI n) post := by
  intro n hn post h
  refine Eq.mp (congrArg post ?_) h
  clear h post
  revert n
  decide
theorem bt_pc : ∀ n, n < 16 → dv_pc n ≤ 4 := by decide
theorem pz_16 (a b : Nat) : nI a * 16 + nI b = nI (16 * a + b) := by
  rw [show (16 : Int32) = nI 16 from rfl, pk_mul, nI_add]; congr 1; omega
theorem pz_16' (a b : Nat) : 16 * nI a + nI b = nI (16 * a + b) := by
  rw [show (16 : Int32) = nI 16 from rfl, pk_mul, nI_add]
theorem pz_m1 (u : Nat) : nI u + -1 = nI u - 1 := (Int32.sub_eq_add_neg (nI u) 1).symm
/-- what has been worked out -/
def dv_Done (A : Nat → Nat → Int) (N : Nat) (f : Nat → Int64) : Prop := ∀ R C, R < N → C < 16 → dv_pc R = dv_pc C → f (16 * R + C) = Int64.ofInt (dv A R C)
theorem dv_along {n0 : Nat} {ex : Nat → Int32} {xr : Int32} {vals : Nat → Int64} {n a C : Nat} {post : Int64 → Prop} (hn0 : n0 ≤ 4) (hn : n < n0) (ha : a < 2 ^ n) (hC : C < 16) (hpc : dv_pc C = dv_pc a + 1) (hD : dv_Done (st_X n0 ex) (2 ^ n) vals)
    (hp : post (Int64.ofInt (dv (st_X n0 ex) (2 ^ n + a) C))) : wp_MN_alongLastRow xr vals ex (nI n) (nI a) (nI C) post := by
  have ha16 : a < 8 := by
    have : 2 ^ n ≤ 2 ^ 3 := Nat.pow_le_pow_right (by decide) (by omega)
    omega
  intro P hP
  have key : ∀ (l d : Nat), l + d = 4 → P (Int64.ofInt (dv_dn C (st_X n0 ex n) (fun l => dv (st_X n0 ex) a (C - 2 ^ l)) d).1) (Int64.ofInt (dv_dn C (st_X n0 ex n) (fun l => dv (st_X n0 ex) a (C - 2 ^ l)) d).2) (nI l - 1) := by
    intro l
    induction l with
    | zero =>
      intro d hd
      refine hP _ _ _ ⟨fun _ => ?_, fun w => absurd (by decide) w⟩
      rw [show d = 4 by omega, dv_downs (st_X n0 ex) (by omega) ha C hC hpc]
      exact hp
    | succ l ih =>
      intro d hd
      have eu : nI (l + 1) - 1 = nI l := by
        rw [show (1 : Int32) = nI 1 from rfl, pz_sub (by omega)]; congr 1
      rw [eu]
      have e3 : 3 - d = l := by omega
      have nx := ih (d + 1) (by omega)
      refine hP _ _ (nI l) ⟨fun w => ?_, fun _ v hv => ?_⟩
      · rw [show (0 : Int32) = nI 0 from rfl, pz_lt (by omega) (by omega)] at w; omega
      subst hv
      rw [bt_and C hC l (by omega)]
      refine ⟨fun q v hv => ?_, fun q => ?_⟩
      · rw [hv, pz_m1]
        rw [dv_dn, e3, if_neg q] at nx
        exact nx
      · have q1 : C / 2 ^ l % 2 = 1 := by omega
        obtain ⟨x1, x2⟩ := bt_xor C hC l (by omega) q1
        have hle : C - 2 ^ l ≤ C := Nat.sub_le _ _
        rw [x1, pz_16, pz_4]
        refine ⟨pz_in (by omega) (by omega), fun v hv => ⟨pz_in (by omega) (by omega), fun v2 hv2 v3 hv3 v4 hv4 => ?_⟩⟩
        rw [hv4, pz_m1]
        rw [dv_dn, e3, if_pos q1] at nx
        rw [pz_c (by omega)] at hv hv2
        have pp : ∀ C, C < 16 → ∀ l, l < 4 → C / 2 ^ l % 2 = 1 → dv_pc (C - 2 ^ l) + 1 = dv_pc C := by decide
        have e5 : v = Int64.ofInt (dv (st_X n0 ex) a (C - 2 ^ l)) := by
          rw [hv]; exact hD a (C - 2 ^ l) ha (by omega) (by have := pp C hC l (by omega) q1; omega)
        have e6 : (ex (4 * n + l)).toInt64 = Int64.ofInt (st_X n0 ex n l) := by rw [st_X, if_pos hn, pz_long]
        rw [e6, e5] at hv2
        rw [hv3, hv2, ← Int64.ofInt_neg, ← Int64.ofInt_mul, ← Int64.ofInt_mul, ← Int64.ofInt_add]
        exact nx
  exact key 4 0 rfl
theorem dv_expand {n0 : Nat} {ex : Nat → Int32} {xr : Int32} {vals : Nat → Int64} {post : Int32 → (Nat → Int64) → Prop} (hn0 : n0 ≤ 4) (hp : ∀ f, dv_Done (st_X n0 ex) (2 ^ n0) f → post (nI (2 ^ n0)) f) : wp_MN_expand xr vals ex (nI n0) post := by
  refine ⟨pz_in (n := 0) (by omega) (by omega), fun w hw v hv => ?_⟩
  rw [bt_shl n0 (by omega)] at hv
  subst hv
  have h1 : dv_Done (st_X n0 ex) (2 ^ 0) w := by
    intro R C hR hC hpc
    have hR0 : R = 0 := by simp at hR; exact hR
    subst hR0
    have z : ∀ C, C < 16 → dv_pc 0 = dv_pc C → C = 0 := by decide
    have := z C hC hpc
    subst this
    rw [hw]; rfl
  intro P hP
  have key : ∀ (d n : Nat) (f : Nat → Int64), n + d = n0 → dv_Done (st_X n0 ex) (2 ^ n) f → P f (nI n) := by
    intro d
    induction d with
    | zero =>
      intro n f hn hf
      rw [show n = n0 by omega] at hf ⊢
      exact hP f (nI n0) ⟨fun _ => hp f hf, fun q => absurd ((pz_le (by omega) (by omega)).mpr (Nat.le_refl _)) q⟩
    | succ d ih =>
      intro n f hn hf
      have hnb : 2 ^ n ≤ 2 ^ 3 := Nat.pow_le_pow_right (by decide) (by omega)
      refine hP f (nI n) ⟨fun q => by rw [pz_le (by omega) (by omega)] at q; omega, fun _ v hv => ?_⟩
      rw [bt_shl n (by omega)] at hv
      subst hv
      intro P2 hP2
      have key2 : ∀ (d2 a : Nat) (f : Nat → Int64), a + d2 = 2 ^ n → dv_Done (st_X n0 ex) (2 ^ n + a) f → P2 f (nI a) := by
        intro d2
        induction d2 with
        | zero =>
          intro a f ha hf
          refine hP2 f (nI a) ⟨fun _ v hv => ?_, fun q => ?_⟩
          · rw [hv, nI_1]
            refine ih (n + 1) f (by omega) ?_
            rw [Nat.pow_succ, show 2 ^ n * 2 = 2 ^ n + a by omega]; exact hf
          · rw [pz_le (by omega) (by omega)] at q; omega
        | succ d2 ih2 =>
          intro a f ha hf
          refine hP2 f (nI a) ⟨fun q => by rw [pz_le (by omega) (by omega)] at q; omega, fun _ => ?_⟩
          intro P3 hP3
          have key3 : ∀ (d3 C : Nat) (f : Nat → Int64), C + d3 = 16 → 1 ≤ C → dv_Done (st_X n0 ex) (2 ^ n + a) f → (∀ C', C' < C → dv_pc (2 ^ n + a) = dv_pc C' → f (16 * (2 ^ n + a) + C') = Int64.ofInt (dv (st_X n0 ex) (2 ^ n + a) C')) → P3 f (nI C) := by
            intro d3
            induction d3 with
            | zero =>
              intro C f hC hC1 hf hc
              refine hP3 f (nI C) ⟨fun _ v hv => ?_, fun q => ?_⟩
              · rw [hv, nI_1]
                refine ih2 (a + 1) f (by omega) (fun R C' hR hC' hpc => ?_)
                rcases Nat.eq_or_lt_of_le (show R ≤ 2 ^ n + a by omega) with z | z
                · rw [z] at hpc ⊢; exact hc C' (by omega) hpc
                · exact hf R C' z hC' hpc
              · rw [show (16 : Int32) = nI 16 from rfl, pz_le (by omega) (by omega)] at q; omega
            | succ d3 ih3 =>
              intro C f hC hC1 hf hc
              refine hP3 f (nI C) ⟨fun q => by rw [show (16 : Int32) = nI 16 from rfl, pz_le (by omega) (by omega)] at q; omega, fun _ => ?_⟩
              refine bt_count C (by omega) (bt_count a (by omega) ?_)
              have pa := bt_pc a (by omega)
              have pC := bt_pc C (by omega)
              have pl : ∀ n, n < 4 → ∀ a, a < 2 ^ n → dv_pc (2 ^ n + a) = dv_pc a + 1 := by decide
              have pR := pl n (by omega) a (by omega)
              rw [nI_1, pz_eq (by omega) (by omega)]
              refine ⟨fun q v hv => ?_, fun q => ?_⟩
              · rw [hv, nI_1]
                refine ih3 (C + 1) f (by omega) (by omega) hf (fun C' hC' hpc => ?_)
                rcases Nat.eq_or_lt_of_le (Nat.le_of_lt_succ hC') with z | z
                · rw [z] at hpc; omega
                · exact hc C' z hpc
              · refine dv_along (n0 := n0) hn0 (by omega) (by omega) (by omega) q (fun R C' hR hC' hpc => hf R C' (by omega) hC' hpc) ?_
                rw [bt_or n (by omega) a (by omega), pz_16]
                refine ⟨pz_in (by omega) (by omega), fun w hw v hv => ?_⟩
                rw [hv, nI_1]
                rw [pz_c (by omega)] at hw
                refine ih3 (C + 1) w (by omega) (by omega) (fun R C' hR hC' hpc => ?_) (fun C' hC' hpc => ?_)
                · rw [hw, pz_updL, if_neg (by omega)]; exact hf R C' hR hC' hpc
                · rw [hw, pz_updL]
                  by_cases z : C' = C
                  · rw [z, if_pos rfl]
                  · rw [if_neg (by omega)]; exact hc C' (by omega) hpc
          refine key3 15 1 f rfl (Nat.le_refl _) hf (fun C' hC' hpc => ?_)
          have pl : ∀ n, n < 4 → ∀ a, a < 2 ^ n → dv_pc (2 ^ n + a) = dv_pc a + 1 := by decide
          have pR := pl n (by omega) a (by omega)
          have : C' = 0 := by omega
          rw [this] at hpc
          have : dv_pc 0 = 0 := rfl
          omega
      exact key2 (2 ^ n) 0 f (by omega) hf
  exact key n0 0 w (by omega) h1
/-- the greatest divisor, row set by row set -/
def dv_gc (A : Nat → Nat → Int) (s R : Nat) (g : Nat) : Nat → Nat
  | 0 => g
  | C + 1 => if dv_pc R = s ∧ dv_pc C = s then Nat.gcd (dv_gc A s R g C) (dv A R C).natAbs else dv_gc A s R g C
def dv_gr (A : Nat → Nat → Int) (s : Nat) : Nat → Nat
  | 0 => 0
  | R + 1 => dv_gc A s R (dv_gr A s R) 16
theorem dv_gcle {g x N : Nat} (hg : g ≤ N) (hx : x ≤ N) : Nat.gcd g x ≤ N := by
  rcases Nat.eq_zero_or_pos g with z | z
  · rw [z, Nat.gcd_zero_left]; exact hx
  · exact Nat.le_trans (Nat.gcd_le_left x z) hg
theorem dv_small {n0 : Nat} {ex : Nat → Int32} (hok : st_ok n0 ex) {R C : Nat} (hR : R < 16) (hC : C < 16) : (dv (st_X n0 ex) R C).natAbs ≤ 15000 := by
  have cols : ∀ C, C < 16 → ∀ a, a ∈ dv_l C → a < 4 := by decide
  have h5 : ∀ i a, a ∈ dv_l C → (st_X n0 ex i a).natAbs ≤ 5 := fun i a ha => st_ok5 hok i (cols C hC a ha)
  generalize st_X n0 ex = A at h5
  unfold dv
  generalize dv_l C = lc at h5
  generalize dv_l R = lr
  have d2 : ∀ i j a b, a ∈ lc → b ∈ lc → (hn_d2 (A i) (A j) a b).natAbs ≤ 50 := fun i j a b ha hb => pr_d2b (U := 5) (V := 5) ⟨h5 i a ha, h5 i b hb⟩ ⟨h5 j a ha, h5 j b hb⟩
  have d3 : ∀ i j k a b c, a ∈ lc → b ∈ lc → c ∈ lc → (hn_d3 (A i) (A j) (A k) a b c).natAbs ≤ 750 := by
    intro i j k a b c ha hb hc
    unfold hn_d3
    have e1 : (A i a * hn_d2 (A j) (A k) b c).natAbs ≤ 5 * 50 := by rw [Int.natAbs_mul]; exact Nat.mul_le_mul (h5 i a ha) (d2 j k b c hb hc)
    have e2 : (A i b * hn_d2 (A j) (A k) a c).natAbs ≤ 5 * 50 := by rw [Int.natAbs_mul]; exact Nat.mul_le_mul (h5 i b hb) (d2 j k a c ha hc)
    have e3 : (A i c * hn_d2 (A j) (A k) a b).natAbs ≤ 5 * 50 := by rw [Int.natAbs_mul]; exact Nat.mul_le_mul (h5 i c hc) (d2 j k a b ha hb)
    omega
  unfold dv_m
  split
  · decide
  · rename_i i a; have := h5 i a (by simp); omega
  · rename_i i j a b; have := d2 i j a b (by simp) (by simp); omega
  · rename_i i j k a b c; have := d3 i j k a b c (by simp) (by simp) (by simp); omega
  · rename_i i j k l a b c d
    have e1 : (A i a * hn_d3 (A j) (A k) (A l) b c d).natAbs ≤ 5 * 750 := by rw [Int.natAbs_mul]; exact Nat.mul_le_mul (h5 i a (by simp)) (d3 j k l b c d (by simp) (by simp) (by simp))
    have e2 : (A i b * hn_d3 (A j) (A k) (A l) a c d).natAbs ≤ 5 * 750 := by rw [Int.natAbs_mul]; exact Nat.mul_le_mul (h5 i b (by simp)) (d3 j k l a c d (by simp) (by simp) (by simp))
    have e3 : (A i c * hn_d3 (A j) (A k) (A l) a b d).natAbs ≤ 5 * 750 := by rw [Int.natAbs_mul]; exact Nat.mul_le_mul (h5 i c (by simp)) (d3 j k l a b d (by simp) (by simp) (by simp))
    have e4 : (A i d * hn_d3 (A j) (A k) (A l) a b c).natAbs ≤ 5 * 750 := by rw [Int.natAbs_mul]; exact Nat.mul_le_mul (h5 i d (by simp)) (d3 j k l a b c (by simp) (by simp) (by simp))
    unfold hn_d4
    omega
  · decide
theorem dv_gcs {n0 : Nat} {ex : Nat → Int32} (hok : st_ok n0 ex) {s R g : Nat} (hR : R < 16) (hg : g ≤ 15000) : ∀ C, C ≤ 16 → dv_gc (st_X n0 ex) s R g C ≤ 15000 := by
  intro C
  induction C with
  | zero => intro _; exact hg
  | succ C ih =>
    intro hC
    rw [dv_gc]
    split
    · exact dv_gcle (ih (by omega)) (dv_small hok hR (by omega))
    · exact ih (by omega)
theorem dv_grs {n0 : Nat} {ex : Nat → Int32} (hok : st_ok n0 ex) {s : Nat} : ∀ R, R ≤ 16 → dv_gr (st_X n0 ex) s R ≤ 15000 := by
  intro R
  induction R with
  | zero => intro _; exact Nat.zero_le _
  | succ R ih => intro hR; exact dv_gcs hok (by omega) (ih (by omega)) 16 (Nat.le_refl _)
/-- divisor of the class -/
theorem dv_divisor {n0 s : Nat} {ex : Nat → Int32} {f : Nat → Int64} {post : Int64 → Prop} (hok : st_ok n0 ex) (hs : s ≤ 4) (hD : dv_Done (st_X n0 ex) (2 ^ n0) f) (hp : post (Int64.ofInt ((dv_gr (st_X n0 ex) s (2 ^ n0) : Nat) : Int))) : wp_MN_divisor (nI (2 ^ n0)) f (nI s) post := by
  have hn0 := hok.1
  have hnb : 2 ^ n0 ≤ 2 ^ 4 := Nat.pow_le_pow_right (by decide) hn0
  intro P hP
  have key : ∀ (d R : Nat), R + d = 2 ^ n0 → P (Int64.ofInt ((dv_gr (st_X n0 ex) s R : Nat) : Int)) (nI R) := by
    intro d
    induction d with
    | zero =>
      intro R hR
      rw [show R = 2 ^ n0 by omega]
      exact hP _ _ ⟨fun _ => hp, fun q => absurd ((pz_le (by omega) (by omega)).mpr (Nat.le_refl _)) q⟩
    | succ d ih =>
      intro R hR
      refine hP _ (nI R) ⟨fun q => by rw [pz_le (by omega) (by omega)] at q; omega, fun _ => ?_⟩
      intro P2 hP2
      have key2 : ∀ (d2 C : Nat), C + d2 = 16 → P2 (Int64.ofInt ((dv_gc (st_X n0 ex) s R (dv_gr (st_X n0 ex) s R) C : Nat) : Int)) (nI C) := by
        intro d2
        induction d2 with
        | zero =>
          intro C hC
          refine hP2 _ (nI C) ⟨fun _ v hv => ?_, fun q => ?_⟩
          · rw [hv, nI_1]
            have := ih (R + 1) (by omega)
            rw [dv_gr] at this
            rw [show C = 16 by omega]
            exact this
          · rw [show (16 : Int32) = nI 16 from rfl, pz_le (by omega) (by omega)] at q; omega
        | succ d2 ih2 =>
          intro C hC
          have nx := ih2 (C + 1) (by omega)
          rw [dv_gc] at nx
          have pR := bt_pc R (by omega)
          have pC := bt_pc C (by omega)
          refine hP2 _ (nI C) ⟨fun q => by rw [show (16 : Int32) = nI 16 from rfl, pz_le (by omega) (by omega)] at q; omega, fun _ => ?_⟩
          refine bt_count R (by omega) ?_
          rw [pz_eq (by omega) (by omega)]
          refine ⟨fun q v hv => ?_, fun q => ?_⟩
          · rw [hv, nI_1]; rw [if_neg (fun z => q z.1)] at nx; exact nx
          · refine bt_count C (by omega) ?_
            rw [pz_eq (by omega) (by omega)]
            refine ⟨fun q2 v hv => ?_, fun q2 => ?_⟩
            · rw [hv, nI_1]; rw [if_neg (fun z => q2 z.2)] at nx; exact nx
            · rw [pz_16]
              refine ⟨pz_in (by omega) (by omega), ?_⟩
              rw [pz_c (by omega), hD R C (by omega) (by omega) (by omega)]
              have b1 := dv_gcs hok (s := s) (R := R) (by omega) (dv_grs hok (s := s) R (by omega)) C (by omega)
              have b2 := dv_small hok (R := R) (C := C) (by omega) (by omega)
              refine gd_common (by unfold pr_sm; omega) (by unfold pr_sm; omega) (fun v hv => ?_)
              rw [hv, nI_1]
              rw [if_pos ⟨q, q2⟩] at nx
              exact nx
      exact key2 16 0 rfl
  exact key (2 ^ n0) 0 (by omega)
