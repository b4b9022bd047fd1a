/-! findGroup, findRelations, relate and findHull of the reference. -/
theorem pz_4' (a b : Nat) : 4 * nI a + nI b = nI (4 * a + b) := by
  rw [show (4 : Int32) = nI 4 from rfl, pk_mul, nI_add]
theorem mi_start {A : Nat → Nat → Int} {c x m k : Int32} {f : Nat → Int64} {g : Nat → Int32} {post : (Nat → Int32) → Prop} (hp : ∀ g', mi_St A 0 f g' → post g') : wp_MD_start c x m k g post := by
  intro P hP
  have key : ∀ (d j : Nat) (g1 : Nat → Int32), j + d = 8 → (∀ y, y < j → g1 y = 0) → P g1 (nI j) := by
    intro d
    induction d with
    | zero =>
      intro j g1 hj h1
      refine hP g1 (nI j) ⟨fun _ => hp g1 ⟨0, fun _ => 0, fun _ _ => 0, ⟨fun k c hk => by omega, fun y hy => ⟨fun w => absurd (h1 y (by omega)) w, fun ⟨k, hk, _⟩ => by omega⟩⟩, ⟨⟨fun i hi => by omega, fun i k _ hk => by omega, fun i j hi => by omega, fun i hi => by omega, fun i k _ hk => by omega⟩, fun i hi => by omega, fun i hi => by omega⟩⟩, fun w => ?_⟩
      rw [show (8 : Int32) = nI 8 from rfl, pz_le (by omega) (by omega)] at w; omega
    | succ d ih =>
      intro j g1 hj h1
      refine hP g1 (nI j) ⟨fun w => ?_, fun _ => ⟨pz_in (by omega) (by omega), fun w hw v hv => ?_⟩⟩
      · rw [show (8 : Int32) = nI 8 from rfl, pz_le (by omega) (by omega)] at w; omega
      rw [hv, nI_1]
      rw [pz_c (by omega)] at hw
      refine ih (j + 1) w (by omega) (fun y hy => ?_)
      have e : w y = if y = j then 0 else g1 y := by rw [hw]; rfl
      rw [e]
      by_cases z : y = j
      · rw [if_pos z]
      · rw [if_neg z]; exact h1 y (by omega)
  exact key 8 0 g (by omega) (fun y hy => by omega)
/-- findGroup: the base of the group -/
theorem mi_findGroup {n0 : Nat} {ex : Nat → Int32} {c m k : Int32} {f rw0 td : Nat → Int64} {g : Nat → Int32} {post : Int32 → (Nat → Int64) → (Nat → Int32) → (Nat → Int64) → (Nat → Int64) → Prop} (hok : st_ok n0 ex)
    (hp : ∀ r p B f' g' rw' td', r ≤ 4 → hn_Grp 4 n0 (st_X n0 ex) r p B → (∀ i y, i < r → y < 4 → td' (4 * i + y) = Int64.ofInt (B i y)) → post (nI r) f' g' rw' td') : wp_MD_findGroup c (nI n0) m k ex f g rw0 td post := by
  have hn := hok.1
  have hM : pr_Mat 4 (pr_M 4 (st_X n0 ex)) := pr_MatA (by omega) (fun i j _ hj => st_ok5 hok i hj)
  refine mi_start (A := mi_A8 (st_X n0 ex)) (f := f) (fun g1 hS => ?_)
  intro P hP
  have key : ∀ (d e : Nat) (f1 : Nat → Int64) (g1 : Nat → Int32) (rw1 : Nat → Int64), e + d = n0 → mi_St (mi_A8 (st_X n0 ex)) e f1 g1 → P f1 g1 rw1 (nI e) := by
    intro d
    induction d with
    | zero =>
      intro e f1 g1 rw1 he hS1
      have : e = n0 := by omega
      subst this
      refine hP f1 g1 rw1 (nI e) ⟨fun _ => ?_, fun w => absurd ((pz_le (by omega) (by omega)).mpr (Nat.le_refl _)) w⟩
      obtain ⟨r, p, B, hR, hG⟩ := hS1
      obtain ⟨g4, -⟩ := mi_A8g hG
      have hr : r ≤ 4 := by
        have inc : ∀ i, i < r → i ≤ p i := by
          intro i
          induction i with
          | zero => intro _; omega
          | succ i ih => intro hi; have a := ih (by omega); have b := g4.1.2.1 i (i + 1) (by omega) hi; omega
        rcases Nat.lt_or_ge 4 r with z | z
        · have a := inc 4 z; have b := g4.1.1 4 z; omega
        · exact z
      refine mi_tell (a := 0) (b := r) (fr := 0) hR hG.1 (by omega) (by omega) (Nat.le_refl _) (by omega) (fun k hk => by omega) (fun k _ hk => ⟨by omega, by have := g4.1.1 k hk; omega⟩) (fun k a b => by omega) (fun td' ht => ?_)
      rw [Nat.sub_zero] at ht ⊢
      refine hp r p B f1 g1 rw1 td' hr g4 (fun i y hi hy => ?_)
      have := ht i y hi hy
      rw [Nat.zero_add, Nat.zero_add] at this
      exact this
    | succ d ih =>
      intro e f1 g1 rw1 he hS1
      refine hP f1 g1 rw1 (nI e) ⟨fun w => by rw [pz_le (by omega) (by omega)] at w; omega, fun _ => ?_⟩
      intro P2 hP2
      have key2 : ∀ (d2 y : Nat) (rw2 : Nat → Int64), y + d2 = 8 → (∀ y', y' < y → rw2 y' = Int64.ofInt (mi_A8 (st_X n0 ex) e y')) → P2 rw2 (nI y) := by
        intro d2
        induction d2 with
        | zero =>
          intro y rw2 hy h2
          refine hP2 rw2 (nI y) ⟨fun _ => ?_, fun w => ?_⟩
          · refine mi_next (mi_HSg hM) (by omega) hS1 (fun y' hy' => h2 y' (by omega)) (fun f' g' rw' hS' v hv => ?_)
            rw [hv, nI_1]
            exact ih (e + 1) f' g' rw' (by omega) hS'
          · rw [show (8 : Int32) = nI 8 from rfl, pz_le (by omega) (by omega)] at w; omega
        | succ d2 ih2 =>
          intro y rw2 hy h2
          have st : ∀ t0, t0 = Int64.ofInt (mi_A8 (st_X n0 ex) e y) → wp_MD_findGroup_47 c (nI n0) m k ex f1 g1 td (nI e) post P P2 rw2 (nI y) t0 (nI y) := by
            intro t0 ht0
            refine ⟨pz_in (by omega) (by omega), fun w hw v hv => ?_⟩
            rw [hv, nI_1]
            rw [pz_c (by omega)] at hw
            refine ih2 (y + 1) w (by omega) (fun y' hy' => ?_)
            rw [hw, pz_updL]
            by_cases z : y' = y
            · rw [if_pos z, z]; exact ht0
            · rw [if_neg z]; exact h2 y' (by omega)
          refine hP2 rw2 (nI y) ⟨fun w => ?_, fun _ => ⟨fun w => ?_, fun w => ?_⟩⟩
          · rw [show (8 : Int32) = nI 8 from rfl, pz_le (by omega) (by omega)] at w; omega
          · rw [show (4 : Int32) = nI 4 from rfl, pz_le (by omega) (by omega)] at w
            exact st 0 (by rw [mi_A8, if_neg (by omega)]; rfl)
          · rw [show (4 : Int32) = nI 4 from rfl, pz_le (by omega) (by omega)] at w
            rw [pz_4']
            refine ⟨pz_in (by omega) (by omega), ?_⟩
            rw [pz_c (by omega)]
            exact st _ (by rw [mi_A8, if_pos (by omega), st_X, if_pos (by omega), pz_long])
      exact key2 8 0 rw1 (by omega) (fun y' hy' => by omega)
  exact key n0 0 f g1 rw0 (by omega) hS
/-- findRelations: the kernel's base, out of a base of all rows with unit rows -/
theorem mi_findRel {h : Nat} {A : Nat → Nat → Int} {c x m k : Int32} {f rw0 mx td : Nat → Int64} {g : Nat → Int32} {post : Int32 → (Nat → Int64) → (Nat → Int32) → (Nat → Int64) → (Nat → Int64) → Prop} (hh : h ≤ 4) (hM : pr_Mat 4 (pr_M 4 A)) (hmx : ∀ i y, i < h → y < 4 → mx (4 * i + y) = Int64.ofInt (A i y))
    (hp : ∀ p Z im f' g' rw' td', pr_Got 8 4 h (pr_M 4 A) p Z → im ≤ h → (∀ k, k < im → p k < 4) → (∀ k, im ≤ k → k < h → 4 ≤ p k) → (∀ i y, i < h - im → y < 4 → td' (4 * i + y) = Int64.ofInt (Z (im + i) (4 + y))) → post (nI (h - im)) f' g' rw' td') : wp_MD_findRelations c x m k f g rw0 mx td (nI h) post := by
  refine mi_start (A := pr_M 4 A) (f := f) (fun g1 hS => ?_)
  intro P hP
  have key : ∀ (d e : Nat) (f1 : Nat → Int64) (g1 : Nat → Int32) (rw1 : Nat → Int64), e + d = h → mi_St (pr_M 4 A) e f1 g1 → P f1 g1 rw1 (nI e) := by
    intro d
    induction d with
    | zero =>
      intro e f1 g1 rw1 he hS1
      have : e = h := by omega
      subst this
      refine hP f1 g1 rw1 (nI e) ⟨fun _ => ?_, fun w => absurd ((pz_le (by omega) (by omega)).mpr (Nat.le_refl _)) w⟩
      obtain ⟨r, p, B, hR, hG⟩ := hS1
      obtain ⟨pM, ZM, hGM⟩ := gx_got hM e hh
      have hSm := hGM.2.2.1 e (Nat.le_refl _)
      obtain ⟨u1, u2⟩ := hn_Grp_one hG ⟨hGM.1, hSm.1, hSm.2⟩
      subst u1
      obtain ⟨im, i1, i2, i3⟩ := gx_im r hGM.1.2.1
      refine mi_tell (a := im) (b := r) (fr := 4) hR hG.1 (by omega) i1 (Nat.le_refl _) (by omega) (fun k hk => by rw [(u2 k (by omega)).1]; exact i2 k hk) (fun k a b => ⟨by rw [(u2 k b).1]; exact i3 k a b, by have := hG.1.1 k b; omega⟩) (fun k a b => by omega) (fun td' ht => ?_)
      refine hp pM ZM im f1 g1 rw1 td' hGM i1 i2 i3 (fun i y hi hy => ?_)
      rw [ht i y hi hy, (u2 (im + i) (by omega)).2 (4 + y) (by omega)]
    | succ d ih =>
      intro e f1 g1 rw1 he hS1
      refine hP f1 g1 rw1 (nI e) ⟨fun w => by rw [pz_le (by omega) (by omega)] at w; omega, fun _ => ?_⟩
      intro P2 hP2
      have key2 : ∀ (d2 y : Nat) (rw2 : Nat → Int64), y + d2 = 8 → (∀ y', y' < y → rw2 y' = Int64.ofInt (pr_M 4 A e y')) → P2 rw2 (nI y) := by
        intro d2
        induction d2 with
        | zero =>
          intro y rw2 hy h2
          refine hP2 rw2 (nI y) ⟨fun _ => ?_, fun w => ?_⟩
          · refine mi_next (mi_HSr hM) (by omega) hS1 (fun y' hy' => h2 y' (by omega)) (fun f' g' rw' hS' v hv => ?_)
            rw [hv, nI_1]
            exact ih (e + 1) f' g' rw' (by omega) hS'
          · rw [show (8 : Int32) = nI 8 from rfl, pz_le (by omega) (by omega)] at w; omega
        | succ d2 ih2 =>
          intro y rw2 hy h2
          have st : ∀ t0, t0 = Int64.ofInt (pr_M 4 A e y) → wp_MD_findRelations_54 c x m k f1 g1 mx td (nI h) (nI e) post P P2 rw2 (nI y) t0 (nI y) := by
            intro t0 ht0
            refine ⟨pz_in (by omega) (by omega), fun w hw v hv => ?_⟩
            rw [hv, nI_1]
            rw [pz_c (by omega)] at hw
            refine ih2 (y + 1) w (by omega) (fun y' hy' => ?_)
            rw [hw, pz_updL]
            by_cases z : y' = y
            · rw [if_pos z, z]; exact ht0
            · rw [if_neg z]; exact h2 y' (by omega)
          refine hP2 rw2 (nI y) ⟨fun w => ?_, fun _ => ⟨fun w => ?_, fun w => ?_⟩⟩
          · rw [show (8 : Int32) = nI 8 from rfl, pz_le (by omega) (by omega)] at w; omega
          · rw [show (4 : Int32) = nI 4 from rfl, pz_le (by omega) (by omega)] at w
            rw [show (4 : Int32) = nI 4 from rfl, pz_sub w, pz_eq (by omega) (by omega)]
            refine ⟨fun z => st 0 ?_, fun z => st 1 ?_⟩
            · rw [pr_M, if_neg (by omega), if_neg (by omega)]; rfl
            · rw [pr_M, if_neg (by omega), if_pos (by omega)]; rfl
          · rw [show (4 : Int32) = nI 4 from rfl, pz_le (by omega) (by omega)] at w
            rw [pz_4']
            refine ⟨pz_in (by omega) (by omega), ?_⟩
            rw [pz_c (by omega)]
            exact st _ (by rw [pr_M, if_pos (by omega)]; exact hmx e y (by omega) (by omega))
      exact key2 8 0 rw1 (by omega) (fun y' hy' => by omega)
  exact key h 0 f g1 rw0 (by omega) hS
theorem mi_relate {n0 : Nat} {ex : Nat → Int32} {c m k : Int32} {f rw0 mx td : Nat → Int64} {g : Nat → Int32} {post : Int32 → (Nat → Int64) → (Nat → Int32) → (Nat → Int64) → (Nat → Int64) → (Nat → Int64) → Prop} (hok : st_ok n0 ex)
    (hp : ∀ r p K f' g' rw' mx' td', r ≤ 4 → hn_Ker n0 4 (st_X n0 ex) r p K → (∀ i y, i < r → y < n0 → td' (4 * i + y) = Int64.ofInt (K i y)) → post (nI r) f' g' rw' mx' td') : wp_MD_relate c (nI n0) m k ex f g rw0 mx td post := by
  have hn := hok.1
  have hM : pr_Mat 4 (pr_M 4 (st_X n0 ex)) := pr_MatA (by omega) (fun i j _ hj => st_ok5 hok i hj)
  intro P hP
  have key : ∀ (d j : Nat) (mx1 : Nat → Int64), j + d = 16 → (∀ i y, 4 * i + y < j → i < n0 → y < 4 → mx1 (4 * i + y) = Int64.ofInt (st_X n0 ex i y)) → P mx1 (nI j) := by
    intro d
    induction d with
    | zero =>
      intro j mx1 hj h1
      refine hP mx1 (nI j) ⟨fun _ => ?_, fun w => ?_⟩
      · refine mi_findRel hn hM (fun i y hi hy => h1 i y (by omega) hi hy) (fun p Z im f' g' rw' td' hG i1 i2 i3 ht => ?_)
        have hk := pr_kerM (pr_ker (n := 4 + n0) rfl hn hM (gx_less hM hn hG) i1 i2 i3)
        exact hp (n0 - im) _ _ f' g' rw' mx1 td' (by omega) hk (fun i y hi hy => ht i y hi (by omega))
      · rw [show (16 : Int32) = nI 16 from rfl, pz_le (by omega) (by omega)] at w; omega
    | succ d ih =>
      intro j mx1 hj h1
      have st : ∀ t0, (j < 4 * n0 → t0 = (ex j).toInt64) → wp_MD_relate_34 c (nI n0) m k ex f g rw0 td post P mx1 (nI j) t0 (nI j) := by
        intro t0 ht0
        refine ⟨pz_in (by omega) (by omega), fun w hw v hv => ?_⟩
        rw [hv, nI_1]
        rw [pz_c (by omega)] at hw
        refine ih (j + 1) w (by omega) (fun i y a b c => ?_)
        rw [hw, pz_updL]
        by_cases z : 4 * i + y = j
        · rw [if_pos z, ht0 (by omega), st_X, if_pos b, pz_long, z]
        · rw [if_neg z]; exact h1 i y (by omega) b c
      refine hP mx1 (nI j) ⟨fun w => ?_, fun _ => ?_⟩
      · rw [show (16 : Int32) = nI 16 from rfl, pz_le (by omega) (by omega)] at w; omega
      rw [show (4 : Int32) * nI n0 = nI (4 * n0) by rw [show (4 : Int32) = nI 4 from rfl, pk_mul], pz_le (by omega) (by omega)]
      refine ⟨fun w => st 0 (fun q => by omega), fun w => ⟨pz_in (by omega) (by omega), ?_⟩⟩
      rw [pz_c (by omega)]
      exact st _ (fun _ => rfl)
  exact key 16 0 mx (by omega) (fun i y a => by omega)
theorem pz_q4 : ∀ k, k < 16 → nI k / 4 = nI (k / 4) ∧ nI k - nI k / 4 * 4 = nI (k % 4) := by decide
