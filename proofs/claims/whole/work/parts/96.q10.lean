/-! findHull of the reference. -/
def mi_pad (k : Nat) (A : Nat → Nat → Int) : Nat → Nat → Int := fun i j => if j < k then A i j else 0
/-- columns of 0 between -/
theorem mi_Mpad {k : Nat} {A : Nat → Nat → Int} (h : pr_Mat k (pr_M k A)) : pr_Mat 4 (pr_M 4 (mi_pad k A)) := by
  have hk := h.1
  have zc : ∀ i j, k ≤ j → j < 4 → pr_M 4 (mi_pad k A) i j = 0 := fun i j a b => by simp [pr_M, mi_pad, b, show ¬ j < k by omega]
  have lo : ∀ i j, j < k → pr_M 4 (mi_pad k A) i j = pr_M k A i j := fun i j a => by simp [pr_M, mi_pad, a, show j < 4 by omega]
  have hi : ∀ i j, 4 ≤ j → pr_M 4 (mi_pad k A) i j = pr_M k A i (k + (j - 4)) := fun i j a => by
    have : (j = 4 + i) ↔ (k + (j - 4) = k + i) := by omega
    simp [pr_M, show ¬ j < 4 by omega, show ¬ k + (j - 4) < k by omega, this]
  refine ⟨by omega, fun i hi => by simp [pr_M, show ¬ 4 + i < 4 by omega], fun i j hi a b c => by simp [pr_M, show ¬ j < 4 by omega, c], fun i j hi4 hj => ?_, fun a b c ha hb hc => ?_⟩
  · rcases Nat.lt_or_ge j k with q | q
    · rw [lo i j q]; exact h.2.2.2.1 i j hi4 hj
    · rcases Nat.lt_or_ge j 4 with z | z
      · rw [zc i j q z]; decide
      · rw [hi i j z]; exact h.2.2.2.1 i _ hi4 (by omega)
  · rw [pr_M_D (by omega)]
    -- where a column comes from
    have col : ∀ x, x < 8 → (∀ i, pr_M 4 (mi_pad k A) i x = 0) ∨ ∃ y, y < 8 ∧ ∀ i, pr_M 4 (mi_pad k A) i x = pr_M k A i y := by
      intro x hx
      rcases Nat.lt_or_ge x k with q | q
      · exact Or.inr ⟨x, hx, fun i => lo i x q⟩
      · rcases Nat.lt_or_ge x 4 with z | z
        · exact Or.inl (fun i => zc i x q z)
        · exact Or.inr ⟨k + (x - 4), by omega, fun i => hi i x z⟩
    rcases col a ha with za | ⟨a', ha', ea⟩
    · rw [show hn_d3 (pr_M 4 (mi_pad k A) 0) (pr_M 4 (mi_pad k A) 1) (pr_M 4 (mi_pad k A) 2) a b c = 0 by simp [hn_d3, hn_d2, za]]; decide
    rcases col b hb with zb | ⟨b', hb', eb⟩
    · rw [show hn_d3 (pr_M 4 (mi_pad k A) 0) (pr_M 4 (mi_pad k A) 1) (pr_M 4 (mi_pad k A) 2) a b c = 0 by simp [hn_d3, hn_d2, zb]]; decide
    rcases col c hc with zc | ⟨c', hc', ec⟩
    · rw [show hn_d3 (pr_M 4 (mi_pad k A) 0) (pr_M 4 (mi_pad k A) 1) (pr_M 4 (mi_pad k A) 2) a b c = 0 by simp [hn_d3, hn_d2, zc]]; decide
    have := h.2.2.2.2 a' b' c' ha' hb' hc'
    rw [pr_M_D hk] at this
    rw [show hn_d3 (pr_M 4 (mi_pad k A) 0) (pr_M 4 (mi_pad k A) 1) (pr_M 4 (mi_pad k A) 2) a b c = hn_d3 (pr_M k A 0) (pr_M k A 1) (pr_M k A 2) a' b' c' by simp only [hn_d3, hn_d2, ea, eb, ec]]
    exact this
theorem mi_kpad {h k r : Nat} {A K : Nat → Nat → Int} {p : Nat → Nat} (hk : k ≤ 4) (a : hn_Ker h 4 (mi_pad k A) r p K) : hn_Ker h k A r p K :=
  hn_Ker_iff a (fun v => ⟨fun H j hj => by
    have := H j (by omega)
    rw [hn_sum_congr (g := fun i => v i * A i j) (fun i _ => by simp [mi_pad, hj])] at this
    exact this, fun H j hj => by
    by_cases q : j < k
    · rw [hn_sum_congr (g := fun i => v i * A i j) (fun i _ => by simp [mi_pad, q])]
      exact H j q
    · exact hn_sum_zero (fun i _ => by simp [mi_pad, q])⟩)
theorem mi_findHull {n0 : Nat} {ex : Nat → Int32} {c m k : Int32} {f rw0 mx td ac : Nat → Int64} {g : Nat → Int32} {post : Int32 → (Nat → Int64) → (Nat → Int32) → (Nat → Int64) → (Nat → Int64) → (Nat → Int64) → (Nat → Int64) → Prop} (hok : st_ok n0 ex)
    (hp : ∀ r H f' g' rw' mx' td' ac', r ≤ 4 → st_Hull n0 (st_X n0 ex) r H → (∀ i y, i < r → y < 4 → td' (4 * i + y) = Int64.ofInt (H i y)) → post (nI r) f' g' rw' mx' td' ac') : wp_MD_findHull c (nI n0) m k ex f g rw0 mx td ac post := by
  have hn := hok.1
  have hM : pr_Mat 4 (pr_M 4 (mi_pad n0 (st_T (st_X n0 ex)))) := mi_Mpad (pr_MatA hn (fun i j hi hj => st_ok5 hok j hi))
  have hA5 : ∀ i j, i < 4 → j < 4 → (mi_pad n0 (st_T (st_X n0 ex)) i j).natAbs ≤ 5 := fun i j hi hj => by
    unfold mi_pad
    split
    · exact st_ok5 hok j hi
    · decide
  intro P hP
  have key : ∀ (d j : Nat) (mx1 : Nat → Int64), j + d = 16 → (∀ i y, 4 * i + y < j → i < 4 → y < 4 → mx1 (4 * i + y) = Int64.ofInt (mi_pad n0 (st_T (st_X n0 ex)) i y)) → P mx1 (nI j) := by
    intro d
    induction d with
    | zero =>
      intro j mx1 hj h1
      refine hP mx1 (nI j) ⟨fun _ => ?_, fun w => ?_⟩
      · refine mi_findRel (h := 4) (by omega) hM (fun i y hi hy => h1 i y (by omega) hi hy) (fun p Z im f' g' rw' td' hG i1 i2 i3 ht => ?_)
        have hk1 := mi_kpad hn (pr_kerM (pr_ker (n := 8) rfl (by omega) hM hG i1 i2 i3))
        have hM2 := mi_Mpad (pr_MatT (w := 4) (im := im) (by omega) hA5 hG i1 i2 i3)
        -- across
        intro P2 hP2
        have fin2 : ∀ ac1, (∀ i y, i < 4 → y < 4 → ac1 (4 * i + y) = if i < 4 - im then Int64.ofInt (Z (im + i) (4 + y)) else 0) → wp_MD_findHull_96 c (nI n0) (nI (4 - im)) k ex f' g' rw' td' ac1 post mx1 0 := by
          intro ac1 hac
          intro P3 hP3
          have key3 : ∀ (d j : Nat) (mx2 : Nat → Int64), j + d = 16 → (∀ i y, 4 * i + y < j → i < 4 → y < 4 → mx2 (4 * i + y) = Int64.ofInt (mi_pad (4 - im) (fun i j => Z (im + j) (4 + i)) i y)) → P3 mx2 (nI j) := by
            intro d
            induction d with
            | zero =>
              intro j mx2 hj h2
              refine hP3 mx2 (nI j) ⟨fun _ => ?_, fun w => ?_⟩
              · refine mi_findRel (h := 4) (by omega) hM2 (fun i y hi hy => h2 i y (by omega) hi hy) (fun p2 Z2 im2 f2 g2 rw2 td2 hG2 j1 j2 j3 ht2 => ?_)
                have hk2 := mi_kpad (by omega) (pr_kerM (pr_ker (n := 8) rfl (by omega) hM2 hG2 j1 j2 j3))
                exact hp (4 - im2) _ f2 g2 rw2 mx2 td2 ac1 (by omega) ⟨4 - im, _, _, _, by omega, hk1, hk2⟩ ht2
              · rw [show (16 : Int32) = nI 16 from rfl, pz_le (by omega) (by omega)] at w; omega
            | succ d ih =>
              intro j mx2 hj h2
              refine hP3 mx2 (nI j) ⟨fun w => ?_, fun _ => ⟨by decide, by decide, ?_⟩⟩
              · rw [show (16 : Int32) = nI 16 from rfl, pz_le (by omega) (by omega)] at w; omega
              have q4 := pz_q4 j (by omega)
              rw [q4.2, q4.1, pz_4', pz_c (show 4 * (j % 4) + j / 4 < 1000 by omega), pz_c (show j < 1000 by omega)]
              refine ⟨pz_in (by omega) (by omega), pz_in (by omega) (by omega), fun w hw v hv => ?_⟩
              rw [hv, nI_1]
              rw [hac (j % 4) (j / 4) (by omega) (by omega)] at hw
              refine ih (j + 1) w (by omega) (fun i y a b e => ?_)
              rw [hw, pz_updL]
              by_cases z : 4 * i + y = j
              · rw [if_pos z, show j % 4 = y by omega, show j / 4 = i by omega]
                unfold mi_pad
                by_cases q : y < 4 - im
                · rw [if_pos q, if_pos q]
                · rw [if_neg q, if_neg q]; rfl
              · rw [if_neg z]; exact h2 i y (by omega) b e
          exact key3 16 0 mx1 (by omega) (fun i y a => by omega)
        have key2 : ∀ (d j : Nat) (ac1 : Nat → Int64), j + d = 16 → (∀ i y, 4 * i + y < j → i < 4 → y < 4 → ac1 (4 * i + y) = if i < 4 - im then Int64.ofInt (Z (im + i) (4 + y)) else 0) → P2 ac1 (nI j) := by
          intro d
          induction d with
          | zero =>
            intro j ac1 hj h2
            refine hP2 ac1 (nI j) ⟨fun _ => fin2 ac1 (fun i y hi hy => h2 i y (by omega) hi hy), fun w => ?_⟩
            rw [show (16 : Int32) = nI 16 from rfl, pz_le (by omega) (by omega)] at w; omega
          | succ d ih =>
            intro j ac1 hj h2
            have st : ∀ t0, (t0 = if j / 4 < 4 - im then Int64.ofInt (Z (im + j / 4) (4 + j % 4)) else 0) → wp_MD_findHull_87 c (nI n0) (nI (4 - im)) k ex f' g' rw' mx1 td' post P2 ac1 (nI j) t0 (nI j) := by
              intro t0 ht0
              refine ⟨pz_in (by omega) (by omega), fun w hw v hv => ?_⟩
              rw [hv, nI_1]
              rw [pz_c (by omega)] at hw
              refine ih (j + 1) w (by omega) (fun i y a b e => ?_)
              rw [hw, pz_updL]
              by_cases z : 4 * i + y = j
              · rw [if_pos z, ht0, show j % 4 = y by omega, show j / 4 = i by omega]
              · rw [if_neg z]; exact h2 i y (by omega) b e
            refine hP2 ac1 (nI j) ⟨fun w => ?_, fun _ => ⟨by decide, ?_⟩⟩
            · rw [show (16 : Int32) = nI 16 from rfl, pz_le (by omega) (by omega)] at w; omega
            rw [(pz_q4 j (by omega)).1, pz_le (by omega) (by omega)]
            refine ⟨fun w => st 0 (by rw [if_neg (by omega)]), fun w => ⟨pz_in (by omega) (by omega), ?_⟩⟩
            rw [pz_c (by omega)]
            refine st _ ?_
            rw [if_pos (by omega)]
            have := ht (j / 4) (j % 4) (by omega) (by omega)
            rw [show 4 * (j / 4) + j % 4 = j by omega] at this
            exact this
        exact key2 16 0 ac (by omega) (fun i y a => by omega)
      · rw [show (16 : Int32) = nI 16 from rfl, pz_le (by omega) (by omega)] at w; omega
    | succ d ih =>
      intro j mx1 hj h1
      have st : ∀ t0, t0 = Int64.ofInt (mi_pad n0 (st_T (st_X n0 ex)) (j / 4) (j % 4)) → wp_MD_findHull_42 c (nI n0) m k ex f g rw0 td ac post P mx1 (nI j) t0 (nI j) := by
        intro t0 ht0
        refine ⟨pz_in (by omega) (by omega), fun w hw v hv => ?_⟩
        rw [hv, nI_1]
        rw [pz_c (by omega)] at hw
        refine ih (j + 1) w (by omega) (fun i y a b e => ?_)
        rw [hw, pz_updL]
        by_cases z : 4 * i + y = j
        · rw [if_pos z, ht0, show j % 4 = y by omega, show j / 4 = i by omega]
        · rw [if_neg z]; exact h1 i y (by omega) b e
      refine hP mx1 (nI j) ⟨fun w => ?_, fun _ => ⟨by decide, ?_⟩⟩
      · rw [show (16 : Int32) = nI 16 from rfl, pz_le (by omega) (by omega)] at w; omega
      have q4 := pz_q4 j (by omega)
      rw [q4.2, q4.1, pz_le (by omega) (by omega), pz_4', pz_c (show 4 * (j % 4) + j / 4 < 1000 by omega)]
      refine ⟨fun w => st 0 ?_, fun w => ⟨by decide, by decide, pz_in (by omega) (by omega), st _ ?_⟩⟩
      · rw [mi_pad, if_neg (by omega)]; rfl
      · rw [mi_pad, if_pos (by omega), st_T, st_X, if_pos (by omega), pz_long]
  exact key 16 0 mx (by omega) (fun i y a => by omega)
