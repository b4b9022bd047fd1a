/-! test of the reference; ranges of numbers. -/
theorem fr_lt0 (x y : Int64) : lg_cmp x y < 0 ↔ x < y := by
  rw [← Int32.not_le, lg_cmp_ge, Int64.not_le]
theorem fr_gt0 (x y : Int64) : 0 < lg_cmp x y ↔ y < x := by
  rw [← Int32.not_le, lg_cmp_le, Int64.not_le]
theorem mi_in {a : Int32} {lo hi : Int64} {post : Int32 → Prop} (h1 : lo.toInt ≤ a.toInt → a.toInt ≤ hi.toInt → post 1) (h0 : (a.toInt < lo.toInt ∨ hi.toInt < a.toInt) → post 0) : wp_MD_in a.toInt64 lo hi post := by
  unfold wp_MD_in
  rw [fr_lt0, fr_gt0, Int64.lt_iff_toInt_lt, Int64.lt_iff_toInt_lt, Int32.toInt_toInt64]
  exact ⟨fun q => h0 (Or.inl q), fun q => ⟨fun q2 => h0 (Or.inr q2), fun q2 => h1 (by omega) (by omega)⟩⟩
theorem mi_in5 {a : Int32} {post : Int32 → Prop} (h1 : a.toInt.natAbs ≤ 5 → post 1) (h0 : ¬ a.toInt.natAbs ≤ 5 → post 0) : wp_MD_in a.toInt64 (-5) 5 post := by
  have e1 : (-5 : Int64).toInt = -5 := rfl
  have e2 : (5 : Int64).toInt = 5 := rfl
  refine mi_in (fun q q2 => h1 ?_) (fun q => h0 ?_)
  · rw [e1] at q; rw [e2] at q2; omega
  · rw [e1, e2] at q; omega
/-- four numbers as a row -/
def fi_v (a b c d : Int32) : Nat → Int := fun j => if j = 0 then a.toInt else if j = 1 then b.toInt else if j = 2 then c.toInt else d.toInt
theorem fi_v5 {a b c d : Int32} (ha : a.toInt.natAbs ≤ 5) (hb : b.toInt.natAbs ≤ 5) (hc : c.toInt.natAbs ≤ 5) (hd : d.toInt.natAbs ≤ 5) (j : Nat) : (fi_v a b c d j).natAbs ≤ 5 := by
  unfold fi_v
  split
  · exact ha
  · split
    · exact hb
    · split
      · exact hc
      · exact hd
theorem fr_isIn {ρ : Nat} {p : Nat → Nat} {B : Nat → Nat → Int} {τ a b e g : Int32} {c x k : Int32} {td pw lf : Nat → Int64} {post : Int32 → (Nat → Int64) → (Nat → Int64) → Prop} (hB : hn_Base 4 ρ p B) (hr : ρ ≤ 4) (hE : ∀ i j, i < ρ → j < 4 → (B i j).natAbs ≤ 15000) (htd : ∀ i j, i < ρ → j < 4 → td (4 * i + j) = Int64.ofInt (B i j)) (hv : ∀ j, j < 4 → (τ.toInt * fi_v a b e g j).natAbs ≤ 75000)
    (hp1 : ∀ (sh : Nat → Int) pw' lf', (∀ j, j < 4 → τ.toInt * fi_v a b e g j = hn_sum ρ (fun i => sh i * B i j)) → (∀ i, i < ρ → pw' i = Int64.ofInt (sh i)) → post 1 pw' lf') (hp0 : ¬ hn_In 4 ρ B (fun j => τ.toInt * fi_v a b e g j) → ∀ pw' lf', post 0 pw' lf') : wp_MD_isIn c x (nI ρ) k td pw lf τ a b e g post := by
  refine ⟨pz_in (n := 0) (by omega) (by omega), fun w2 h2 => ⟨pz_in (n := 1) (by omega) (by omega), fun w4 h4 => ⟨pz_in (n := 2) (by omega) (by omega), fun w6 h6 => ⟨pz_in (n := 3) (by omega) (by omega), fun w8 h8 => ?_⟩⟩⟩⟩
  refine fr_loop hB hr hE htd hv (fun j hj => ?_) hp1 hp0
  have e0 : (0 : Int32).toNatClampNeg = 0 := rfl
  have e1 : (1 : Int32).toNatClampNeg = 1 := rfl
  have e2 : (2 : Int32).toNatClampNeg = 2 := rfl
  have e3 : (3 : Int32).toNatClampNeg = 3 := rfl
  rw [h8, h6, h4, h2, e0, e1, e2, e3]
  simp only [pz_updL]
  rcases (show j = 0 ∨ j = 1 ∨ j = 2 ∨ j = 3 by omega) with rfl | rfl | rfl | rfl <;> simp [fi_v, Int64.ofInt_mul]
theorem fr_test {n0 ρ : Nat} {ex : Nat → Int32} {p : Nat → Nat} {B : Nat → Nat → Int} {a b e g : Int32} {c x : Int32} {mn : Nat → Int32} {st rw0 td mi pw lf : Nat → Int64} {bg : Nat → Int32} {post : Int64 → Int32 → Int32 → Int32 → (Nat → Int64) → (Nat → Int32) → (Nat → Int64) → (Nat → Int64) → (Nat → Int64) → (Nat → Int64) → (Nat → Int64) → Prop} (hok : st_ok n0 ex) (hG : hn_Grp 4 n0 (st_X n0 ex) ρ p B) (htd : ∀ i j, i < ρ → j < 4 → td (4 * i + j) = Int64.ofInt (B i j)) (h5 : ∀ j, (fi_v a b e g j).natAbs ≤ 5)
    (hp1 : ∀ (τ : Nat) (sh : Nat → Int) pw' lf', 1 ≤ τ → (∀ j, j < 4 → (τ : Int) * fi_v a b e g j = hn_sum ρ (fun i => sh i * B i j)) → (∀ t : Nat, 1 ≤ t → t < τ → ¬ hn_In 4 ρ B (fun j => (t : Int) * fi_v a b e g j)) → (∀ i, i < ρ → pw' i = Int64.ofInt (sh i)) → post (Int64.ofInt (τ : Int)) c (nI ρ) 1 st bg rw0 td pw' lf' mi)
    (hp0 : (∀ t : Int, t ≠ 0 → ¬ hn_In 4 ρ B (fun j => t * fi_v a b e g j)) → ∀ pw' lf', post 0 c (nI ρ) 0 st bg rw0 td pw' lf' mi) : wp_MD_test_97 c x (nI ρ) mn st bg rw0 td mi a b e g (Int64.ofInt ((dv_gr (st_X n0 ex) ρ 16 : Nat) : Int)) post 0 pw lf 1 := by
  intro P hP
  obtain ⟨hr, hE⟩ := fb_ent hok hG
  have hg := dv_grs hok (s := ρ) 16 (Nat.le_refl _)
  have hg1 := cr_pos hok hG (Nat.le_refl ρ)
  have hgm := fun (t : Int) (ht : t ≠ 0) (h : hn_In 4 ρ B (fun j => t * fi_v a b e g j)) => cr_main hok hG ht h
  generalize dv_gr (st_X n0 ex) ρ 16 = most at *
  have key : ∀ d τ, τ + d = most + 1 → 1 ≤ τ → ∀ pw lf, (∀ t : Nat, 1 ≤ t → t < τ → ¬ hn_In 4 ρ B (fun j => (t : Int) * fi_v a b e g j)) → P 0 pw lf (nI τ) := by
    intro d
    induction d with
    | zero =>
      intro τ hτ h1 pw lf hno
      have e1 : (nI τ).toInt64 = Int64.ofInt (τ : Int) := by rw [pz_long, nI_toInt (by omega)]
      refine hP _ _ _ _ ?_
      unfold wp_MD_test_97b
      rw [e1, fr_gt0, Int64.lt_iff_toInt_lt, pr_toInt (by unfold pr_sm; omega), pr_toInt (by unfold pr_sm; omega)]
      exact ⟨fun _ => hp0 (fun t ht h => hno most (by omega) (by omega) (hgm t ht h)) _ _, fun q => by omega⟩
    | succ d ih =>
      intro τ hτ h1 pw lf hno
      have e0 : (nI τ).toInt = (τ : Int) := nI_toInt (by omega)
      have e1 : (nI τ).toInt64 = Int64.ofInt (τ : Int) := by rw [pz_long, e0]
      refine hP _ _ _ _ ?_
      unfold wp_MD_test_97b
      rw [e1, fr_gt0, Int64.lt_iff_toInt_lt, pr_toInt (by unfold pr_sm; omega), pr_toInt (by unfold pr_sm; omega)]
      refine ⟨fun q => by omega, fun _ => ⟨fun q => absurd rfl q, fun _ => ?_⟩⟩
      refine fr_isIn hG.1 hr hE htd (fun j hj => ?_) (fun sh pw' lf' hs hpw => ?_) (fun hn pw' lf' => ?_)
      · rw [e0, Int.natAbs_mul]
        exact Nat.mul_le_mul (show (τ : Int).natAbs ≤ 15000 by omega) (h5 j)
      · refine ⟨fi_bool1.1, fi_bool1.2, fun q => absurd q (by decide), fun _ => ?_⟩
        rw [e0] at hs
        exact hp1 τ sh pw' lf' h1 hs hno hpw
      · refine ⟨fi_bool0.1, fi_bool0.2, fun _ w hw => ?_, fun q => absurd rfl q⟩
        rw [hw, nI_1]
        refine ih (τ + 1) (by omega) (by omega) pw' lf' (fun t t1 t2 => ?_)
        rcases (show t < τ ∨ t = τ by omega) with z | z
        · exact hno t t1 z
        · rw [z]; rw [e0] at hn; exact hn
  exact key most 1 (by omega) (by omega) pw lf (fun t t1 t2 => by omega)
/-- test of the reference, in range -/
theorem mi_test {n0 : Nat} {ex : Nat → Int32} {a b e g : Int32} {c m k : Int32} {st rw0 td mi pw lf : Nat → Int64} {bg : Nat → Int32} {post : Int64 → Int32 → Int32 → Int32 → (Nat → Int64) → (Nat → Int32) → (Nat → Int64) → (Nat → Int64) → (Nat → Int64) → (Nat → Int64) → (Nat → Int64) → Prop} (hok : st_ok n0 ex) (ha : a.toInt.natAbs ≤ 5) (hb : b.toInt.natAbs ≤ 5) (he : e.toInt.natAbs ≤ 5) (hg : g.toInt.natAbs ≤ 5)
    (hp1 : ∀ (ρ : Nat) p B (τ : Nat) (sh : Nat → Int) mm st' bg' rw' td' pw' lf' mi', hn_Grp 4 n0 (st_X n0 ex) ρ p B → 1 ≤ τ → (∀ j, j < 4 → (τ : Int) * fi_v a b e g j = hn_sum ρ (fun i => sh i * B i j)) → (∀ t : Nat, 1 ≤ t → t < τ → ¬ hn_In 4 ρ B (fun j => (t : Int) * fi_v a b e g j)) → (∀ i, i < ρ → pw' i = Int64.ofInt (sh i)) → post (Int64.ofInt (τ : Int)) 0 mm 1 st' bg' rw' td' pw' lf' mi')
    (hp0 : ∀ (ρ : Nat) p B mm st' bg' rw' td' pw' lf' mi', hn_Grp 4 n0 (st_X n0 ex) ρ p B → (∀ t : Int, t ≠ 0 → ¬ hn_In 4 ρ B (fun j => t * fi_v a b e g j)) → post 0 0 mm 0 st' bg' rw' td' pw' lf' mi') : wp_MD_test c (nI n0) m k ex st bg rw0 td pw lf mi a b e g post := by
  refine mi_in5 (fun _ => ⟨fun q => absurd q (by decide), fun _ => mi_in5 (fun _ => ⟨fun q => absurd q (by decide), fun _ => mi_in5 (fun _ => ⟨fun q => absurd q (by decide), fun _ => mi_in5 (fun _ => ⟨fun q => absurd q (by decide), fun _ => ?_⟩) (fun q => absurd hg q)⟩) (fun q => absurd he q)⟩) (fun q => absurd hb q)⟩) (fun q => absurd ha q)
  refine ⟨fun _ => mi_findGroup hok (fun r p B f' g' rw' td' hr hG htd => dv_common hok hr (fun mi' => ?_)), fun q => absurd (show (0 : Int32) ≤ 0 by decide) q⟩
  exact fr_test hok hG htd (fi_v5 ha hb he hg) (fun τ sh pw' lf' h1 hs hno hpw => hp1 r p B τ sh _ _ _ _ _ _ _ _ hG h1 hs hno hpw) (fun hno pw' lf' => hp0 r p B _ _ _ _ _ _ _ _ hG hno)
/-- test of the reference, out of range: all stays but the code -/
theorem mi_testx {n0 : Nat} {ex : Nat → Int32} {a b e g : Int32} {c m k : Int32} {st rw0 td mi pw lf : Nat → Int64} {bg : Nat → Int32} {post : Int64 → Int32 → Int32 → Int32 → (Nat → Int64) → (Nat → Int32) → (Nat → Int64) → (Nat → Int64) → (Nat → Int64) → (Nat → Int64) → (Nat → Int64) → Prop} (h : ¬ (a.toInt.natAbs ≤ 5 ∧ b.toInt.natAbs ≤ 5 ∧ e.toInt.natAbs ≤ 5 ∧ g.toInt.natAbs ≤ 5))
    (hp : post 0 1 m k st bg rw0 td pw lf mi) : wp_MD_test c (nI n0) m k ex st bg rw0 td pw lf mi a b e g post := by
  have z : wp_MD_test_62 (nI n0) ex a b e g post c m k st bg rw0 td pw lf mi := ⟨fun q => absurd q (by decide), fun _ => hp⟩
  exact mi_in5 (fun ha => ⟨fun q => absurd q (by decide), fun _ => mi_in5 (fun hb => ⟨fun q => absurd q (by decide), fun _ => mi_in5 (fun he => ⟨fun q => absurd q (by decide), fun _ => mi_in5 (fun hg => absurd ⟨ha, hb, he, hg⟩ h) (fun q => ⟨fun _ => z, fun q => absurd rfl q⟩)⟩) (fun q => ⟨fun _ => z, fun q => absurd rfl q⟩)⟩) (fun q => ⟨fun _ => z, fun q => absurd rfl q⟩)⟩) (fun q => ⟨fun _ => z, fun q => absurd rfl q⟩)
