/-! The reference's determinants and common divisors. -/
theorem dv_zsum (C : Nat) (f g : Nat → Int) (h : ∀ l, f l = 0) : ∀ d, (dv_dn C f g d).1 = 0 := by
  intro d
  induction d with
  | zero => rfl
  | succ d ih =>
    rw [dv_dn]
    split
    · show (dv_dn C f g d).1 + (dv_dn C f g d).2 * f (3 - d) * g (3 - d) = 0
      rw [ih, h]; simp
    · exact ih
def dv_top (R : Nat) : Nat := if 8 ≤ R then 3 else if 4 ≤ R then 2 else if 2 ≤ R then 1 else 0
theorem dv_zero {n0 : Nat} {ex : Nat → Int32} (hn : n0 ≤ 4) {R C : Nat} (hR : R < 16) (hC : C < 16) (hb : 2 ^ n0 ≤ R) (hpc : dv_pc R = dv_pc C) : dv (st_X n0 ex) R C = 0 := by
  have h1 : 1 ≤ R := Nat.le_trans (Nat.pow_pos (by decide)) hb
  have top1 : ∀ n0, n0 < 5 → ∀ R, R < 16 → 2 ^ n0 ≤ R → n0 ≤ dv_top R := by decide
  have top2 : ∀ R, R < 16 → 1 ≤ R → dv_top R < 4 ∧ R - 2 ^ dv_top R < 2 ^ dv_top R := by decide
  have top3 : ∀ R, R < 16 → 1 ≤ R → 2 ^ dv_top R + (R - 2 ^ dv_top R) = R := by decide
  have top4 : ∀ R, R < 16 → 1 ≤ R → dv_pc R = dv_pc (R - 2 ^ dv_top R) + 1 := by decide
  have tn := top1 n0 (by omega) R hR hb
  have e := top3 R hR h1
  have pe := top4 R hR h1
  obtain ⟨t4, at2⟩ := top2 R hR h1
  rw [← e, ← dv_downs (st_X n0 ex) t4 at2 C hC (by omega)]
  exact dv_zsum C _ _ (fun l => by rw [st_X, if_neg (by omega)]) 4
theorem dv_minor {n0 : Nat} {ex : Nat → Int32} {c m k : Int32} {f : Nat → Int64} {R C : Nat} {post : Int64 → Prop} (hn0 : n0 ≤ 4) (hR : R < 16) (hC : C < 16) (hpc : dv_pc R = dv_pc C) (hD : dv_Done (st_X n0 ex) R f) (hp : post (Int64.ofInt (dv (st_X n0 ex) R C))) : wp_MD_minor c (nI n0) m k ex f (nI R) (nI C) post := by
  unfold wp_MD_minor
  rw [bt_big R hR n0 (by omega), show (0 : Int32) = nI 0 from rfl, pz_eq (by omega) (by omega)]
  refine ⟨fun h0 => ⟨fun hb => ?_, fun hb => ?_⟩, fun h0 => ?_⟩
  · -- the first row
    intro P hP
    have key : ∀ (d j : Nat), j + d = 4 → R % 2 ^ j = 0 → P (nI j) := by
      intro d
      induction d with
      | zero =>
        intro j hj hz
        rw [show j = 4 by omega, show (2 : Nat) ^ 4 = 16 from rfl] at hz
        omega
      | succ d ih =>
        intro j hj hz
        refine hP (nI j) ?_
        unfold wp_MD_minor_19b
        rw [bt_shr R hR j (by omega)]
        refine ⟨fun q => ?_, fun q v hv => ?_⟩
        · have q1 : R / 2 ^ j % 2 = 1 := Classical.not_not.mp q
          have hjn : j < n0 := by
            rcases Nat.lt_or_ge j n0 with z | z
            · exact z
            · have : 2 ^ n0 ≤ 2 ^ j := Nat.pow_le_pow_right (by decide) z
              have : R / 2 ^ j = 0 := Nat.div_eq_of_lt (by omega)
              rw [this] at q1; omega
          have hle : R - 2 ^ j < R := Nat.sub_lt (by omega) (Nat.pow_pos (by decide))
          have hRj : 2 ^ j ≤ R := by
            rcases Nat.lt_or_ge R (2 ^ j) with z | z
            · rw [Nat.div_eq_of_lt z] at q1; omega
            · exact z
          obtain ⟨-, hpR⟩ := dv_first R hR j (by omega) q1 hz
          intro P2 hP2
          have key2 : ∀ (d2 l : Nat), l + d2 = 4 → P2 (Int64.ofInt (dv_up C (st_X n0 ex j) (fun l => dv (st_X n0 ex) (R - 2 ^ j) (C - 2 ^ l)) l).1) (Int64.ofInt (dv_up C (st_X n0 ex j) (fun l => dv (st_X n0 ex) (R - 2 ^ j) (C - 2 ^ l)) l).2) (nI l) := by
            intro d2
            induction d2 with
            | zero =>
              intro l hl
              refine hP2 _ _ (nI l) ⟨fun _ => ?_, fun w => ?_⟩
              · rw [show l = 4 by omega, dv_ups (st_X n0 ex) hR (by omega) q1 hz C hC hpc.symm]
                exact hp
              · rw [show (4 : Int32) = nI 4 from rfl, pz_le (by omega) (by omega)] at w; omega
            | succ d2 ih2 =>
              intro l hl
              have nx := ih2 (l + 1) (by omega)
              rw [dv_up] at nx
              refine hP2 _ _ (nI l) ⟨fun w => by rw [show (4 : Int32) = nI 4 from rfl, pz_le (by omega) (by omega)] at w; omega, fun _ => ?_⟩
              rw [bt_shr C hC l (by omega)]
              refine ⟨fun w => ?_, fun w v hv => ?_⟩
              · have w1 : C / 2 ^ l % 2 = 1 := Classical.not_not.mp w
                rw [if_pos w1] at nx
                have hCl : 2 ^ l ≤ C := (bt_xor C hC l (by omega) w1).2
                have hle2 : C - 2 ^ l ≤ C := Nat.sub_le _ _
                have ei : 16 * (nI R - (1 : Int32) <<< (nI j &&& 31)) + nI C - (1 : Int32) <<< (nI l &&& 31) = nI (16 * (R - 2 ^ j) + (C - 2 ^ l)) := by
                  rw [bt_shl j (by omega), bt_shl l (by omega), pz_sub hRj, pz_16', pz_sub (by omega)]
                  congr 1
                  omega
                rw [pz_4', ei]
                refine ⟨pz_in (by omega) (by omega), pz_in (by omega) (by omega), fun v hv v2 hv2 v3 hv3 => ?_⟩
                rw [pz_c (by omega), pz_c (by omega)] at hv
                have pp : ∀ C, C < 16 → ∀ l, l < 4 → C / 2 ^ l % 2 = 1 → dv_pc (C - 2 ^ l) + 1 = dv_pc C := by decide
                have e5 : f (16 * (R - 2 ^ j) + (C - 2 ^ l)) = Int64.ofInt (dv (st_X n0 ex) (R - 2 ^ j) (C - 2 ^ l)) := hD _ _ hle (by omega) (by have := pp C hC l (by omega) w1; omega)
                have e6 : (ex (4 * j + l)).toInt64 = Int64.ofInt (st_X n0 ex j l) := by rw [st_X, if_pos hjn, pz_long]
                rw [e5, e6] at hv
                rw [hv3, nI_1, hv2, hv, ← Int64.ofInt_neg, ← Int64.ofInt_mul, ← Int64.ofInt_mul, ← Int64.ofInt_add]
                exact nx
              · rw [if_neg w] at nx
                rw [hv, nI_1]; exact nx
          exact key2 4 0 rfl
        · rw [hv, nI_1]
          refine ih (j + 1) (by omega) ?_
          have z : ∀ R, R < 16 → ∀ j, j < 4 → R % 2 ^ j = 0 → ¬ R / 2 ^ j % 2 = 1 → R % 2 ^ (j + 1) = 0 := by decide
          exact z R hR j (by omega) hz q
    exact key 4 0 rfl (by rw [Nat.pow_zero, Nat.mod_one])
  · rw [dv_zero hn0 hR hC (by omega) hpc] at hp
    exact hp
  · subst h0
    have z : ∀ C, C < 16 → dv_pc 0 = dv_pc C → C = 0 := by decide
    rw [z C hC hpc] at hp
    exact hp
/-- common of the reference -/
theorem dv_common {n0 s : Nat} {ex : Nat → Int32} {c m k : Int32} {f : Nat → Int64} {post : Int64 → (Nat → Int64) → Prop} (hok : st_ok n0 ex) (hs : s ≤ 4) (hp : ∀ f', post (Int64.ofInt ((dv_gr (st_X n0 ex) s 16 : Nat) : Int)) f') : wp_MD_common c (nI n0) m k ex f (nI s) post := by
  have hn0 := hok.1
  intro P hP
  have key : ∀ (d R : Nat) (f : Nat → Int64), R + d = 16 → dv_Done (st_X n0 ex) R f → P f (Int64.ofInt ((dv_gr (st_X n0 ex) s R : Nat) : Int)) (nI R) := by
    intro d
    induction d with
    | zero =>
      intro R f hR hf
      rw [show R = 16 by omega]
      exact hP f _ (nI 16) ⟨fun _ => hp f, fun q => absurd ((pz_le (a := 16) (b := 16) (by omega) (by omega)).mpr (Nat.le_refl _)) q⟩
    | succ d ih =>
      intro R f hR hf
      refine hP f _ (nI R) ⟨fun q => by rw [show (16 : Int32) = nI 16 from rfl, pz_le (by omega) (by omega)] at q; omega, fun _ => ?_⟩
      intro P2 hP2
      have key2 : ∀ (d2 C : Nat) (f : Nat → Int64), C + d2 = 16 → dv_Done (st_X n0 ex) R f → (∀ C', C' < C → dv_pc R = dv_pc C' → f (16 * R + C') = Int64.ofInt (dv (st_X n0 ex) R C')) → P2 f (Int64.ofInt ((dv_gc (st_X n0 ex) s R (dv_gr (st_X n0 ex) s R) C : Nat) : Int)) (nI C) := by
        intro d2
        induction d2 with
        | zero =>
          intro C f hC hf hc
          refine hP2 f _ (nI C) ⟨fun _ v hv => ?_, fun q => ?_⟩
          · rw [hv, nI_1]
            have := ih (R + 1) f (by omega) (fun R' C' hR' hC' hpc => by
              rcases Nat.eq_or_lt_of_le (Nat.le_of_lt_succ hR') with z | z
              · rw [z] at hpc ⊢; exact hc C' (by omega) hpc
              · exact hf R' C' z hC' hpc)
            rw [dv_gr] at this
            rw [show C = 16 by omega]
            exact this
          · rw [show (16 : Int32) = nI 16 from rfl, pz_le (by omega) (by omega)] at q; omega
        | succ d2 ih2 =>
          intro C f hC hf hc
          have pR := bt_pc R (by omega)
          have pC := bt_pc C (by omega)
          refine hP2 f _ (nI C) ⟨fun q => by rw [show (16 : Int32) = nI 16 from rfl, pz_le (by omega) (by omega)] at q; omega, fun _ => ?_⟩
          refine bt_bits R (by omega) (bt_bits C (by omega) ?_)
          rw [pz_eq (by omega) (by omega)]
          refine ⟨fun q => ?_, fun q v hv => ?_⟩
          · refine dv_minor hn0 (by omega) (by omega) q hf ?_
            rw [pz_16']
            refine ⟨pz_in (by omega) (by omega), fun w hw => ?_⟩
            rw [pz_c (by omega)] at hw ⊢
            have hf' : dv_Done (st_X n0 ex) R w := fun R' C' hR' hC' hpc => by rw [hw, pz_updL, if_neg (by omega)]; exact hf R' C' hR' hC' hpc
            have hw0 : w (16 * R + C) = Int64.ofInt (dv (st_X n0 ex) R C) := by rw [hw, pz_updL, if_pos rfl]
            have hc' : ∀ C', C' < C + 1 → dv_pc R = dv_pc C' → w (16 * R + C') = Int64.ofInt (dv (st_X n0 ex) R C') := by
              intro C' hC' hpc
              by_cases z : C' = C
              · rw [z]; exact hw0
              · rw [hw, pz_updL, if_neg (by omega)]; exact hc C' (by omega) hpc
            have nx := ih2 (C + 1) w (by omega) hf' hc'
            rw [dv_gc] at nx
            refine bt_bits R (by omega) ?_
            rw [pz_eq (by omega) (by omega)]
            refine ⟨fun q2 v hv => ?_, fun q2 => ⟨pz_in (by omega) (by omega), ?_⟩⟩
            · rw [hv, nI_1]; rw [if_neg (fun z => q2 z.1)] at nx; exact nx
            · rw [hw0]
              have b1 := dv_gcs hok (s := s) (R := R) (by omega) (dv_grs hok (s := s) R (by omega)) C (by omega)
              have b2 := dv_small hok (R := R) (C := C) (by omega) (by omega)
              refine gd_divisor (by unfold pr_sm; omega) (by unfold pr_sm; omega) (fun v hv => ?_)
              rw [hv, nI_1]
              rw [if_pos ⟨q2, by omega⟩] at nx
              exact nx
          · rw [hv, nI_1]
            have nx := ih2 (C + 1) f (by omega) hf (fun C' hC' hpc => by
              rcases Nat.eq_or_lt_of_le (Nat.le_of_lt_succ hC') with z | z
              · rw [z] at hpc; omega
              · exact hc C' z hpc)
            rw [dv_gc, if_neg (fun z => q (by omega))] at nx
            exact nx
      exact key2 16 0 f rfl hf (fun C' hC' => by omega)
  exact key 16 0 f rfl (fun R C hR => by omega)
/-- row sets that hold no element count for nothing -/
theorem dv_gz {n0 s R g : Nat} {ex : Nat → Int32} (hn : n0 ≤ 4) (hR : R < 16) (hb : 2 ^ n0 ≤ R) : ∀ C, C ≤ 16 → dv_gc (st_X n0 ex) s R g C = g := by
  intro C
  induction C with
  | zero => intro _; rfl
  | succ C ih =>
    intro hC
    rw [dv_gc, ih (by omega)]
    split
    · rename_i q
      rw [dv_zero hn hR (by omega) hb (by omega)]; simp
    · rfl
theorem dv_g16 {n0 s : Nat} {ex : Nat → Int32} (hn : n0 ≤ 4) : dv_gr (st_X n0 ex) s 16 = dv_gr (st_X n0 ex) s (2 ^ n0) := by
  have hnb : 2 ^ n0 ≤ 2 ^ 4 := Nat.pow_le_pow_right (by decide) hn
  have key : ∀ d, 2 ^ n0 + d ≤ 16 → dv_gr (st_X n0 ex) s (2 ^ n0 + d) = dv_gr (st_X n0 ex) s (2 ^ n0) := by
    intro d
    induction d with
    | zero => intro _; rfl
    | succ d ih =>
      intro hd
      rw [show 2 ^ n0 + (d + 1) = (2 ^ n0 + d) + 1 by omega, dv_gr, dv_gz hn (by omega) (by omega) 16 (Nat.le_refl _)]
      exact ih (by omega)
  have := key (16 - 2 ^ n0) (by omega)
  rw [show 2 ^ n0 + (16 - 2 ^ n0) = 16 by omega] at this
  exact this
