/-! Pure rows: indices, and what the small methods of Reduction do to its cells. -/
theorem pz_8 (a b : Nat) : nI a * 8 + nI b = nI (8 * a + b) := by
  rw [show (8 : Int32) = nI 8 from rfl, pk_mul, nI_add]; congr 1; omega
theorem pz_4 (a b : Nat) : nI a * 4 + nI b = nI (4 * a + b) := by
  rw [show (4 : Int32) = nI 4 from rfl, pk_mul, nI_add]; congr 1; omega
theorem pz_c {n : Nat} (h : n < 1000) : (nI n).toNatClampNeg = n := nI_clamp (by omega)
theorem pz_in {n N : Nat} (h : n < N) (hN : N < 1000) : vp_in (nI n) N := vp_in_nI h (by omega)
theorem pz_le {a b : Nat} (ha : a < 10000) (hb : b < 10000) : nI a ≤ nI b ↔ a ≤ b := nI_leI (by omega) (by omega)
theorem pz_lt {a b : Nat} (ha : a < 10000) (hb : b < 10000) : nI a < nI b ↔ a < b := nI_ltI (by omega) (by omega)
theorem pz_eq {a b : Nat} (ha : a < 10000) (hb : b < 10000) : nI a = nI b ↔ a = b := nI_eq (by omega) (by omega)
theorem pz_cmp0 (x : Int64) : lg_cmp x 0 = 0 ↔ x = 0 := lg_cmp_eq x 0
theorem pz_updL {f : Nat → Int64} {k j : Nat} {x : Int64} : vp_updL f k x j = if j = k then x else f j := rfl
theorem pz_cell {xh xw xi : Int32} {f : Nat → Int64} {r c : Nat} {post : Int64 → Prop} (hr : r < 4) (hc : c < 8) (h : post (f (8 * r + c))) : wp_RD_cell xh xw xi f (nI r) (nI c) post := by
  unfold wp_RD_cell
  rw [pz_8, pz_c (by omega)]
  exact ⟨pz_in (by omega) (by omega), h⟩
theorem pz_set {xh xw xi : Int32} {f : Nat → Int64} {r c : Nat} {v : Int64} {post : (Nat → Int64) → Prop} (hr : r < 4) (hc : c < 8) (h : post (vp_updL f (8 * r + c) v)) : wp_RD_set xh xw xi f (nI r) (nI c) v post := by
  unfold wp_RD_set
  rw [pz_8, pz_c (by omega)]
  exact ⟨pz_in (by omega) (by omega), fun w hw => by rw [hw]; exact h⟩
/-- row r of f' is g there up to n, all else of f' is f -/
def pz_row (n : Nat) (f f' : Nat → Int64) (r : Nat) (g : Nat → Int64) : Prop := ∀ i c, i < 4 → c < 8 → f' (8 * i + c) = if i = r ∧ c < n then g c else f (8 * i + c)
theorem pz_row0 {f : Nat → Int64} {r : Nat} {g : Nat → Int64} : pz_row 0 f f r g := fun i c _ _ => by simp
theorem pz_row_s {n : Nat} {f f' : Nat → Int64} {r : Nat} {g : Nat → Int64} (hr : r < 4) (hn : n < 8) (h : pz_row n f f' r g) : pz_row (n + 1) f (vp_updL f' (8 * r + n) (g n)) r g := by
  intro i c hi hc
  rw [pz_updL]
  by_cases e : i = r
  · subst e
    by_cases e2 : c = n
    · subst e2; simp
    · rw [if_neg (by omega), h i c hi hc]
      by_cases e3 : c < n
      · simp [e3, show c < n + 1 by omega]
      · simp [e3, show ¬ c < n + 1 by omega]
  · rw [if_neg (by omega), h i c hi hc]
    simp [e]
theorem pz_takeAway {h w n : Nat} {xi : Int32} {f : Nat → Int64} {r o : Nat} {k : Int64} {post : (Nat → Int64) → Prop} (hn : w + h = n) (hn8 : n ≤ 8) (hr : r < 4) (ho : o < 4) (hne : r ≠ o)
    (hp : ∀ f', pz_row n f f' r (fun c => f (8 * r + c) - k * f (8 * o + c)) → post f') : wp_RD_takeAway (nI h) (nI w) xi f (nI r) (nI o) k post := by
  unfold wp_RD_takeAway
  refine ⟨fun _ => ?_, fun e => ?_⟩
  · intro P hP
    have key : ∀ m c g, c + m = n → pz_row c f g r (fun c => f (8 * r + c) - k * f (8 * o + c)) → P g (nI c) := by
      intro m
      induction m with
      | zero =>
        intro c g hc hg
        refine hP g (nI c) ⟨fun _ => ?_, fun q => ?_⟩
        · have : c = n := by omega
          subst this
          exact hp g hg
        · rw [nI_add, pz_le (by omega) (by omega)] at q
          omega
      | succ m ih =>
        intro c g hc hg
        refine hP g (nI c) ⟨fun q => ?_, fun _ => ?_⟩
        · rw [nI_add, pz_le (by omega) (by omega)] at q
          omega
        · refine pz_cell hr (by omega) (pz_cell ho (by omega) (pz_set hr (by omega) ?_))
          intro v hv
          rw [hv, nI_1]
          have e1 : g (8 * r + c) = f (8 * r + c) := by rw [hg r c hr (by omega)]; simp
          have e2 : g (8 * o + c) = f (8 * o + c) := by rw [hg o c ho (by omega)]; simp [show ¬ o = r from fun q => hne q.symm]
          rw [e1, e2]
          exact ih (c + 1) _ (by omega) (pz_row_s hr (by omega) hg)
    exact key n 0 f (by omega) pz_row0
  · have e0 : k = 0 := (pz_cmp0 k).mp e
    refine hp f (fun i c hi hc => ?_)
    by_cases e1 : i = r ∧ c < n
    · rw [if_pos e1, e0, e1.1]
      simp
    · rw [if_neg e1]
theorem pz_turn {h w n : Nat} {xi : Int32} {f : Nat → Int64} {r : Nat} {post : (Nat → Int64) → Prop} (hn : w + h = n) (hn8 : n ≤ 8) (hr : r < 4)
    (hp : ∀ f', pz_row n f f' r (fun c => -f (8 * r + c)) → post f') : wp_RD_turnSigns (nI h) (nI w) xi f (nI r) post := by
  intro P hP
  have key : ∀ m c g, c + m = n → pz_row c f g r (fun c => -f (8 * r + c)) → P g (nI c) := by
    intro m
    induction m with
    | zero =>
      intro c g hc hg
      refine hP g (nI c) ⟨fun _ => ?_, fun q => ?_⟩
      · have : c = n := by omega
        subst this
        exact hp g hg
      · rw [nI_add, pz_le (by omega) (by omega)] at q
        omega
    | succ m ih =>
      intro c g hc hg
      refine hP g (nI c) ⟨fun q => ?_, fun _ => ?_⟩
      · rw [nI_add, pz_le (by omega) (by omega)] at q
        omega
      · refine pz_cell hr (by omega) (pz_set hr (by omega) ?_)
        intro v hv
        rw [hv, nI_1]
        have e1 : g (8 * r + c) = f (8 * r + c) := by rw [hg r c hr (by omega)]; simp
        rw [e1]
        exact ih (c + 1) _ (by omega) (pz_row_s hr (by omega) hg)
  exact key n 0 f (by omega) pz_row0
/-- rows r and o have changed places up to n -/
def pz_swp (n : Nat) (f f' : Nat → Int64) (r o : Nat) : Prop := ∀ i c, i < 4 → c < 8 → f' (8 * i + c) = if c < n then (if i = r then f (8 * o + c) else if i = o then f (8 * r + c) else f (8 * i + c)) else f (8 * i + c)
theorem pz_swap {h w n : Nat} {xi : Int32} {f : Nat → Int64} {r o : Nat} {post : (Nat → Int64) → Prop} (hn : w + h = n) (hn8 : n ≤ 8) (hr : r < 4) (ho : o < 4) (hne : r ≠ o)
    (hp : ∀ f', pz_swp n f f' r o → post f') : wp_RD_swap (nI h) (nI w) xi f (nI r) (nI o) post := by
  intro P hP
  have key : ∀ m c g, c + m = n → pz_swp c f g r o → P g (nI c) := by
    intro m
    induction m with
    | zero =>
      intro c g hc hg
      refine hP g (nI c) ⟨fun _ => ?_, fun q => ?_⟩
      · have : c = n := by omega
        subst this
        exact hp g hg
      · rw [nI_add, pz_le (by omega) (by omega)] at q
        omega
    | succ m ih =>
      intro c g hc hg
      refine hP g (nI c) ⟨fun q => ?_, fun _ => ?_⟩
      · rw [nI_add, pz_le (by omega) (by omega)] at q
        omega
      · refine pz_cell hr (by omega) (pz_cell ho (by omega) (pz_set hr (by omega) (pz_set ho (by omega) ?_)))
        intro v hv
        rw [hv, nI_1]
        have e1 : g (8 * r + c) = f (8 * r + c) := by rw [hg r c hr (by omega)]; simp
        have e2 : g (8 * o + c) = f (8 * o + c) := by rw [hg o c ho (by omega)]; simp
        rw [e1, e2]
        refine ih (c + 1) _ (by omega) (fun i c' hi hc' => ?_)
        rw [pz_updL, pz_updL]
        have e3 := hg i c' hi hc'
        by_cases a1 : c' = c
        · subst a1
          by_cases a2 : i = o
          · subst a2; simp [show ¬ i = r from fun q => hne q.symm]
          · by_cases a3 : i = r
            · subst a3; rw [if_neg (by omega), if_pos rfl]; simp
            · rw [if_neg (by omega), if_neg (by omega), e3]; simp [a2, a3]
        · rw [if_neg (by omega), if_neg (by omega), e3]
          by_cases a2 : c' < c
          · simp [a2, show c' < c + 1 by omega]
          · simp [a2, show ¬ c' < c + 1 by omega]
  exact key n 0 f (by omega) (fun i c _ _ => by simp)
