/-! The reference's bases: one row after the other, each compared with the base that there must be. -/
theorem gx_less {t : Nat} {M : Nat → Nat → Int} {p : Nat → Nat} {Z : Nat → Nat → Int} (hM : pr_Mat 4 M) (ht : t ≤ 4) (hG : pr_Got 8 4 t M p Z) : pr_Got (4 + t) 4 t M p Z := by
  refine ⟨⟨fun i hi => ?_, hG.1.2.1, hG.1.2.2.1, hG.1.2.2.2.1, hG.1.2.2.2.2⟩, hG.2.1, hG.2.2.1, hG.2.2.2⟩
  rcases Nat.lt_or_ge (p i) (4 + t) with q | q
  · exact q
  · have a := hG.1.1 i hi
    have b := pr_got0 hM ht hG (i := i) (j := p i - 4) hi (by omega) (by omega)
    rw [show 4 + (p i - 4) = p i by omega] at b
    have c := hG.1.2.2.2.1 i hi
    omega
theorem gx_im {p : Nat → Nat} : ∀ t, (∀ i k, i < k → k < t → p i < p k) → ∃ im, im ≤ t ∧ (∀ k, k < im → p k < 4) ∧ (∀ k, im ≤ k → k < t → 4 ≤ p k) := by
  intro t
  induction t with
  | zero => intro _; exact ⟨0, Nat.le_refl _, fun k hk => by omega, fun k _ hk => by omega⟩
  | succ t ih =>
    intro h
    obtain ⟨im, a, b, c⟩ := ih (fun i k x y => h i k x (by omega))
    by_cases e : p t < 4
    · refine ⟨t + 1, Nat.le_refl _, fun k hk => ?_, fun k x y => by omega⟩
      rcases Nat.eq_or_lt_of_le (Nat.le_of_lt_succ hk) with z | z
      · rw [z]; exact e
      · have := h k t z (by omega); omega
    · refine ⟨im, by omega, b, fun k x y => ?_⟩
      rcases Nat.eq_or_lt_of_le (Nat.le_of_lt_succ y) with z | z
      · rw [z]; omega
      · exact c k x z
/-- a tail product of the first r alone -/
def gx_Q (a : Nat → Nat) (r : Nat) : Nat → Nat
  | 0 => 1
  | d + 1 => a (r - (d + 1)) * gx_Q a r d
theorem gx_Start {e r : Nat} {p T p' : Nat → Nat} {Z Z' : Nat → Nat → Int} (h : pr_Start 8 e p T Z) (hr : r ≤ e) (hp : ∀ i, i < r → p' i = p i) (hZ : hn_Base 8 r p' Z') (he : ∀ i j, i < r → j < 8 → (Z' i j).natAbs ≤ 3750) (hv : ∀ i, i < r → Z' i (p' i) = Z i (p i)) (hn : ∀ j, j < 8 → (Z' r j).natAbs ≤ 750) : ∃ T', pr_Start 8 r p' T' Z' := by
  refine ⟨fun l => gx_Q (fun i => (Z' i (p' i)).natAbs) r (r - l), Nat.le_refl _, by have := h.2.1; omega, hZ, he, hn, fun l hl => ?_, ?_, ?_⟩
  · show gx_Q _ r (r - l) = _ * gx_Q _ r (r - (l + 1))
    rw [show r - l = (r - (l + 1)) + 1 by omega, gx_Q, show r - (r - (l + 1) + 1) = l by omega]
  · show gx_Q _ r (r - r) = 1
    rw [Nat.sub_self]; rfl
  · show gx_Q _ r (r - 0) ≤ 750
    have key : ∀ d, d ≤ r → gx_Q (fun i => (Z' i (p' i)).natAbs) r d * T r = T (r - d) := by
      intro d
      induction d with
      | zero => intro _; rw [gx_Q, Nat.one_mul, Nat.sub_zero]
      | succ d ih =>
        intro hd
        rw [gx_Q, Nat.mul_assoc, ih (by omega), hv _ (by omega), h.2.2.2.2.2.1 (r - (d + 1)) (by omega), show r - (d + 1) + 1 = r - d by omega]
    have k := key r (Nat.le_refl _)
    rw [Nat.sub_self] at k
    have t1 := (pr_T h r hr).1
    have t2 := h.2.2.2.2.2.2.2
    have : gx_Q (fun i => (Z' i (p' i)).natAbs) r r * 1 ≤ gx_Q (fun i => (Z' i (p' i)).natAbs) r r * T r := Nat.mul_le_mul_left _ t1
    rw [Nat.sub_zero]
    omega
/-- the state between the rows -/
def mi_St (A : Nat → Nat → Int) (e : Nat) (f : Nat → Int64) (g : Nat → Int32) : Prop := ∃ r p B, mi_Rep r p f g B ∧ hn_Grp 8 e A r p B
theorem mi_drop {r : Nat} {Z : Nat → Nat → Int} {v : Nat → Int} (hz : ∀ j, j < 8 → Z r j = 0) (h : hn_In 8 (r + 1) Z v) : hn_In 8 r Z v := by
  obtain ⟨c, hc⟩ := h
  refine ⟨c, fun j hj => ?_⟩
  rw [hc j hj, hn_sum_s, hz j hj]; omega
theorem hn_In_up {n k : Nat} {Y : Nat → Nat → Int} {v : Nat → Int} (h : hn_In n k Y v) : hn_In n (k + 1) Y v := by
  obtain ⟨c, hc⟩ := h
  refine ⟨fun i => if i = k then 0 else c i, fun j hj => ?_⟩
  rw [hn_sum_s, hc j hj]
  have e1 : hn_sum k (fun i => c i * Y i j) = hn_sum k (fun i => (if i = k then 0 else c i) * Y i j) := hn_sum_congr (fun i hi => by rw [if_neg (by omega)])
  rw [e1]
  simp
theorem hn_In_rows {n k : Nat} {Y Y' : Nat → Nat → Int} {v : Nat → Int} (h : hn_In n k Y v) (e : ∀ i j, i < k → j < n → Y i j = Y' i j) : hn_In n k Y' v := by
  obtain ⟨c, hc⟩ := h
  refine ⟨c, fun j hj => ?_⟩
  rw [hc j hj]
  exact hn_sum_congr (fun i hi => by rw [e i j hi hj])
/-- one row more, where the stairs must be small -/
theorem mi_next {N : Nat} {A : Nat → Nat → Int} (HS : ∀ e r p B, e < N → hn_Grp 8 e A r p B → ∃ T, pr_Start 8 r p T (fun i => if i < r then B i else A e))
    {e : Nat} {c x m k : Int32} {f rw0 : Nat → Int64} {g : Nat → Int32} {post : (Nat → Int64) → (Nat → Int32) → (Nat → Int64) → Prop} (he : e < N) (hS : mi_St A e f g) (hw : ∀ y, y < 8 → rw0 y = Int64.ofInt (A e y))
    (hp : ∀ f' g' rw', mi_St A (e + 1) f' g' → post f' g' rw') : wp_MD_insert c x m k f g rw0 post := by
  obtain ⟨r, p, B, hR, hG⟩ := hS
  obtain ⟨T, h0⟩ := HS e r p B he hG
  have e1 : ∀ i, i < r → (fun i => if i < r then B i else A e) i = B i := fun i hi => if_pos hi
  have e2 : (fun i => if i < r then B i else A e) r = A e := if_neg (by omega)
  generalize hZ : (fun i => if i < r then B i else A e) = Z0 at h0 e1 e2
  refine mi_insert h0 ⟨fun k c hk hc => by rw [e1 k hk]; exact hR.1 k c hk hc, hR.2⟩ (fun y hy => by rw [e2]; exact hw y hy) (fun f' g' rw' r' p' Z' hR' hB' hcase hSm => hp f' g' rw' ⟨r', p', Z', hR', hB', fun i hi => ?_, fun i hi => ?_⟩)
  · refine hn_In_trans (fun l hl => ?_) (hSm.1 i (by omega))
    rcases Nat.eq_or_lt_of_le (Nat.le_of_lt_succ hl) with z | z
    · rw [z, e2]; exact hn_In_row (by omega)
    · rw [e1 l z]; exact hn_In_up (hG.2.1 l z)
  · have a : hn_In 8 (r + 1) Z0 (A i) := by
      rcases Nat.eq_or_lt_of_le (Nat.le_of_lt_succ hi) with z | z
      · rw [z, ← e2]; exact hn_In_row (by omega)
      · exact hn_In_up (hn_In_rows (hG.2.2 i z) (fun l j hl _ => by rw [e1 l hl]))
    have b := hn_In_trans hSm.2 a
    rcases hcase with ⟨q, hz⟩ | q
    · rw [q]; exact mi_drop hz b
    · rw [q]; exact b
/-- with unit rows behind: every row is a stair -/
theorem mi_HSr {A : Nat → Nat → Int} (hM : pr_Mat 4 (pr_M 4 A)) : ∀ e r p B, e < 4 → hn_Grp 8 e (pr_M 4 A) r p B → ∃ T, pr_Start 8 r p T (fun i => if i < r then B i else pr_M 4 A e) := by
  intro e r p B he hG
  obtain ⟨pM, ZM, hGM⟩ := gx_got hM e (by omega)
  obtain ⟨T, hT⟩ := pr_start (Nat.le_refl _) (by omega) hM hGM
  have hS := hGM.2.2.1 e (Nat.le_refl _)
  obtain ⟨u1, u2⟩ := hn_Grp_one hG ⟨hGM.1, hS.1, hS.2⟩
  subst u1
  have e1 : ∀ i, i < r → (fun i => if i < r then B i else pr_M 4 A r) i = B i := fun i hi => if_pos hi
  have e2 : (fun i => if i < r then B i else pr_M 4 A r) r = pr_M 4 A r := if_neg (by omega)
  generalize hZ : (fun i => if i < r then B i else pr_M 4 A r) = Z0 at e1 e2
  have hpi : ∀ i, i < r → p i < 8 := hG.1.1
  refine gx_Start hT (Nat.le_refl _) (fun i hi => (u2 i hi).1) ⟨hG.1.1, hG.1.2.1, fun i j a b => by rw [e1 i a]; exact hG.1.2.2.1 i j a b, fun i a => by rw [e1 i a]; exact hG.1.2.2.2.1 i a, fun i k a b => by rw [e1 i (by omega), e1 k b]; exact hG.1.2.2.2.2 i k a b⟩ (fun i j a b => by rw [e1 i a, (u2 i a).2 j b]; exact hT.2.2.2.1 i j a b) (fun i a => by rw [e1 i a, (u2 i a).2 _ (hpi i a), (u2 i a).1]) (fun j hj => by rw [e2]; exact hM.2.2.2.1 r j he hj)
/-- without: 0 behind the four letters -/
def mi_A8 (A : Nat → Nat → Int) : Nat → Nat → Int := fun i j => if j < 4 then A i j else 0
theorem mi_A8g {e r : Nat} {A B : Nat → Nat → Int} {p : Nat → Nat} (h : hn_Grp 8 e (mi_A8 A) r p B) : hn_Grp 4 e A r p B ∧ ∀ i j, i < r → 4 ≤ j → j < 8 → B i j = 0 := by
  have hz : ∀ i j, i < r → 4 ≤ j → j < 8 → B i j = 0 := by
    intro i j hi a b
    obtain ⟨c, hc⟩ := h.2.1 i hi
    rw [hc j b]
    exact hn_sum_zero (fun l hl => by rw [mi_A8, if_neg (by omega), Int.mul_zero])
  have hp : ∀ i, i < r → p i < 4 := by
    intro i hi
    rcases Nat.lt_or_ge (p i) 4 with q | q
    · exact q
    · have a := hz i (p i) hi q (h.1.1 i hi)
      have b := h.1.2.2.2.1 i hi
      omega
  refine ⟨⟨⟨hp, h.1.2.1, h.1.2.2.1, h.1.2.2.2.1, h.1.2.2.2.2⟩, fun i hi => hn_In_rows (hn_In_less (by omega) (h.2.1 i hi)) (fun l j _ hj => if_pos hj), fun i hi => hn_In_congr (hn_In_less (by omega) (h.2.2 i hi)) (fun j hj => (if_pos hj).symm)⟩, hz⟩
theorem mi_HSg {A : Nat → Nat → Int} (hM : pr_Mat 4 (pr_M 4 A)) : ∀ e r p B, e < 4 → hn_Grp 8 e (mi_A8 A) r p B → ∃ T, pr_Start 8 r p T (fun i => if i < r then B i else mi_A8 A e) := by
  intro e r p B he hG
  obtain ⟨pM, ZM, hGM⟩ := gx_got hM e (by omega)
  obtain ⟨T, hT⟩ := pr_start (Nat.le_refl _) (by omega) hM hGM
  obtain ⟨im, i1, i2, i3⟩ := gx_im e hGM.1.2.1
  have g2 := pr_grp (n := 4 + e) rfl (by omega) (gx_less hM (by omega) hGM) i1 i2 i3
  have g2' : hn_Grp 4 e A im pM ZM := ⟨g2.1, fun i hi => hn_In_rows (g2.2.1 i hi) (fun l j _ hj => by simp [pr_M, hj]), fun i hi => hn_In_congr (g2.2.2 i hi) (fun j hj => by simp [pr_M, hj])⟩
  obtain ⟨g1, hz⟩ := mi_A8g hG
  obtain ⟨u1, u2⟩ := hn_Grp_one g1 g2'
  subst u1
  have e1 : ∀ i, i < r → (fun i => if i < r then B i else mi_A8 A e) i = B i := fun i hi => if_pos hi
  have e2 : (fun i => if i < r then B i else mi_A8 A e) r = mi_A8 A e := if_neg (by omega)
  generalize hZ : (fun i => if i < r then B i else mi_A8 A e) = Z0 at e1 e2
  have hpi : ∀ i, i < r → p i < 4 := g1.1.1
  refine gx_Start hT i1 (fun i hi => (u2 i hi).1) ⟨hG.1.1, hG.1.2.1, fun i j a b => by rw [e1 i a]; exact hG.1.2.2.1 i j a b, fun i a => by rw [e1 i a]; exact hG.1.2.2.2.1 i a, fun i k a b => by rw [e1 i (by omega), e1 k b]; exact hG.1.2.2.2.2 i k a b⟩ (fun i j a b => ?_) (fun i a => by rw [e1 i a, (u2 i a).2 _ (hpi i a), (u2 i a).1]) (fun j hj => ?_)
  · rw [e1 i a]
    rcases Nat.lt_or_ge j 4 with q | q
    · rw [(u2 i a).2 j q]; exact hT.2.2.2.1 i j (by omega) b
    · rw [hz i j a q b]; decide
  · rw [e2]
    unfold mi_A8
    split
    · rename_i q
      have := hM.2.2.2.1 e j he hj
      simp only [pr_M, q, if_true] at this
      exact this
    · decide
/-- tell: the stairs that begin at from or at one of the three places behind it -/
theorem mi_tell {r a b fr : Nat} {p : Nat → Nat} {B : Nat → Nat → Int} {c x m k : Int32} {f td : Nat → Int64} {g : Nat → Int32} {post : Int32 → (Nat → Int64) → Prop} (hR : mi_Rep r p f g B) (hB : hn_Base 8 r p B) (hf : fr ≤ 4) (hab : a ≤ b) (hbr : b ≤ r) (hb4 : b - a ≤ 4) (h1 : ∀ k, k < a → p k < fr) (h2 : ∀ k, a ≤ k → k < b → fr ≤ p k ∧ p k < fr + 4) (h3 : ∀ k, b ≤ k → k < r → fr + 4 ≤ p k)
    (hp : ∀ td', (∀ i y, i < b - a → y < 4 → td' (4 * i + y) = Int64.ofInt (B (a + i) (fr + y))) → post (nI (b - a)) td') : wp_MD_tell c x m k f g td (nI fr) post := by
  intro P hP
  have key : ∀ (d j i : Nat) (td1 : Nat → Int64), j + d = fr + 4 → fr ≤ j → i ≤ b - a → (∀ l, a ≤ l → l < a + i → p l < j) → (∀ l, a + i ≤ l → l < b → j ≤ p l) → (∀ i' y, i' < i → y < 4 → td1 (4 * i' + y) = Int64.ofInt (B (a + i') (fr + y))) → P (nI i) td1 (nI j) := by
    intro d
    induction d with
    | zero =>
      intro j i td1 hj hfj hi l1 l2 ht
      refine hP (nI i) td1 (nI j) ⟨fun _ => ?_, fun w => ?_⟩
      · have : i = b - a := by
          rcases Nat.eq_or_lt_of_le hi with z | z
          · exact z
          · have u := l2 (a + i) (Nat.le_refl _) (by omega); have v := (h2 (a + i) (by omega) (by omega)).2; omega
        subst this
        exact hp td1 ht
      · rw [show (4 : Int32) = nI 4 from rfl, nI_add, pz_le (by omega) (by omega)] at w; omega
    | succ d ih =>
      intro j i td1 hj hfj hi l1 l2 ht
      refine hP (nI i) td1 (nI j) ⟨fun w => ?_, fun _ => ⟨fun w => ?_, fun _ => ⟨pz_in (by omega) (by omega), ?_⟩⟩⟩
      · rw [show (4 : Int32) = nI 4 from rfl, nI_add, pz_le (by omega) (by omega)] at w; omega
      · rw [show (8 : Int32) = nI 8 from rfl, pz_le (by omega) (by omega)] at w; omega
      rw [pz_c (by omega)]
      refine ⟨fun w => ?_, fun w => ?_⟩
      · obtain ⟨l, hl, el⟩ := (hR.2 j (by omega)).mp w
        have hla : a ≤ l := by
          rcases Nat.lt_or_ge l a with z | z
          · have := h1 l z; omega
          · exact z
        have hlb : l < b := by
          rcases Nat.lt_or_ge l b with z | z
          · exact z
          · have := h3 l z hl; omega
        have hli : l = a + i := by
          rcases Nat.lt_trichotomy l (a + i) with z | z | z
          · have := l1 l hla z; omega
          · exact z
          · have u := hB.2.1 (a + i) l z hl; have v := l2 (a + i) (Nat.le_refl _) (by omega); omega
        subst hli
        subst el
        intro P2 hP2
        have key2 : ∀ (d2 y : Nat) (td2 : Nat → Int64), y + d2 = 4 → (∀ i' y', i' < i → y' < 4 → td2 (4 * i' + y') = Int64.ofInt (B (a + i') (fr + y'))) → (∀ y', y' < y → td2 (4 * i + y') = Int64.ofInt (B (a + i) (fr + y'))) → P2 td2 (nI y) := by
          intro d2
          induction d2 with
          | zero =>
            intro y td2 hy t1 t2
            refine hP2 td2 (nI y) ⟨fun _ v hv v2 hv2 => ?_, fun w => ?_⟩
            · rw [hv2, hv, nI_1, nI_1]
              refine ih (p (a + i) + 1) (i + 1) td2 (by omega) (by omega) (by omega) (fun l x1 x2 => ?_) (fun l x1 x2 => ?_) (fun i' y' x1 x2 => ?_)
              · rcases Nat.eq_or_lt_of_le (show l ≤ a + i by omega) with z | z
                · rw [z]; omega
                · have := l1 l x1 z; omega
              · have := hB.2.1 (a + i) l (by omega) (by omega); omega
              · rcases Nat.eq_or_lt_of_le (show i' ≤ i by omega) with z | z
                · rw [z]; exact t2 y' (by omega)
                · exact t1 i' y' z x2
            · rw [show (4 : Int32) = nI 4 from rfl, pz_le (by omega) (by omega)] at w; omega
          | succ d2 ih2 =>
            intro y td2 hy t1 t2
            refine hP2 td2 (nI y) ⟨fun w => ?_, fun _ => ?_⟩
            · rw [show (4 : Int32) = nI 4 from rfl, pz_le (by omega) (by omega)] at w; omega
            rw [pz_8', nI_add, show (4 : Int32) * nI i + nI y = nI (4 * i + y) by rw [show (4 : Int32) = nI 4 from rfl, pk_mul, nI_add], pz_c (show 8 * p (a + i) + fr + y < 1000 by omega), pz_c (show 4 * i + y < 1000 by omega)]
            refine ⟨pz_in (by omega) (by omega), pz_in (by omega) (by omega), fun w hw v hv => ?_⟩
            rw [hv, nI_1]
            have e9 : f (8 * p (a + i) + fr + y) = Int64.ofInt (B (a + i) (fr + y)) := by rw [Nat.add_assoc]; exact hR.1 (a + i) (fr + y) hl (by omega)
            rw [e9] at hw
            refine ih2 (y + 1) w (by omega) (fun i' y' x1 x2 => ?_) (fun y' x1 => ?_)
            · rw [hw, pz_updL, if_neg (by omega)]; exact t1 i' y' x1 x2
            · rw [hw, pz_updL]
              by_cases z : y' = y
              · rw [z, if_pos rfl]
              · rw [if_neg (by omega)]; exact t2 y' (by omega)
        exact key2 4 0 td1 (by omega) ht (fun y' hy' => by omega)
      · intro v hv
        rw [hv, nI_1]
        have hno : ∀ l, l < r → p l ≠ j := fun l hl el => absurd w ((hR.2 j (by omega)).mpr ⟨l, hl, el⟩)
        refine ih (j + 1) i td1 (by omega) (by omega) hi (fun l x1 x2 => by have := l1 l x1 x2; omega) (fun l x1 x2 => ?_) ht
        have u := l2 l x1 x2; have v := hno l (by omega); omega
  refine key 4 fr 0 td rfl (Nat.le_refl _) (by omega) (fun l x1 x2 => by omega) (fun l x1 x2 => (h2 l (by omega) x2).1) (fun i' y x1 => by omega)
