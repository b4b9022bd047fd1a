/-! What the settled rows say, and that both sides say the same. -/
theorem st_g {n0 : Nat} {ex : Nat → Int32} {h w im : Int32} {f : Nat → Int64} (hok : st_ok n0 ex) (hE : st_El n0 ex h w im f) : ∃ (ρ : Nat) (p : Nat → Nat) (B : Nat → Nat → Int) (pK : Nat → Nat), h = nI n0 ∧ w = nI 4 ∧ im = nI ρ ∧ ρ ≤ n0 ∧ hn_Grp 4 n0 (st_X n0 ex) ρ p B ∧ (∀ i j, i < ρ → j < 4 → f (8 * i + j) = Int64.ofInt (B i j)) ∧ hn_Ker n0 4 (st_X n0 ex) (n0 - ρ) pK (fun i j => B (ρ + i) (4 + j)) ∧ ∀ i j, i < n0 - ρ → j < n0 → f (8 * (ρ + i) + (4 + j)) = Int64.ofInt (B (ρ + i) (4 + j)) := by
  obtain ⟨ρ, Z, p, e1, e2, e3, hρ, hR, hG, h1, h2⟩ := hE
  have hn := hok.1
  have hM : pr_Mat 4 (pr_M 4 (st_X n0 ex)) := pr_MatA (by omega) (fun i j _ hj => st_ok5 hok i hj)
  have g2 := pr_grp (n := 4 + n0) (h := n0) rfl (by omega) hG hρ h1 h2
  have g2' : hn_Grp 4 n0 (st_X n0 ex) ρ p Z := ⟨g2.1, fun i hi => hn_In_rows (g2.2.1 i hi) (fun l j _ hj => by simp [pr_M, hj]), fun i hi => hn_In_congr (g2.2.2 i hi) (fun j hj => by simp [pr_M, hj])⟩
  have g3 := pr_kerM (pr_ker (n := 4 + n0) (h := n0) rfl hn hM hG hρ h1 h2)
  exact ⟨ρ, p, Z, _, e1, e2, e3, hρ, g2', fun i j hi hj => hR i j (by omega) (by omega), g3, fun i j hi hj => hR (ρ + i) (4 + j) (by omega) (by omega)⟩
theorem st_hull1 {n0 r r' : Nat} {A H H' : Nat → Nat → Int} (h : st_Hull n0 A r H) (h' : st_Hull n0 A r' H') : r = r' ∧ ∀ i j, i < r → j < 4 → H i j = H' i j := by
  obtain ⟨rK, pK, K, pH, -, k1, k2⟩ := h
  obtain ⟨rK', pK', K', pH', -, k1', k2'⟩ := h'
  obtain ⟨u1, u2⟩ := hn_Ker_one k1 k1'
  subst u1
  have k3 : hn_Ker 4 rK (st_T K) r' pH' H' := hn_Ker_iff k2' (fun v => ⟨fun Q j hj => by
    rw [← Q j hj]; exact hn_sum_congr (fun i hi => by show v i * K j i = v i * K' j i; rw [(u2 j hj).2 i hi]), fun Q j hj => by
    rw [← Q j hj]; exact hn_sum_congr (fun i hi => by show v i * K' j i = v i * K j i; rw [(u2 j hj).2 i hi])⟩)
  obtain ⟨v1, v2⟩ := hn_Ker_one k2 k3
  exact ⟨v1, fun i j hi hj => (v2 i hi).2 j hj⟩
/-! the ends of a step -/
theorem lw_w0 {o : Nat → Int64} {x : Int64} : vp_updL o (0 : Int32).toNatClampNeg x (0 : Int32).toNatClampNeg = x := if_pos rfl
theorem lw_fin0 {x y : Int64} {G : Prop} (h : x = y) (g : G) : ((0 : Int32) = 0 → ((¬ (0 : Int32) = 0 → G) ∧ ((0 : Int32) = 0 → (vp_in (0 : Int32) 1 ∧ ((lg_cmp x y = 0 → G) ∧ (¬ lg_cmp x y = 0 → False)))))) ∧ (¬ (0 : Int32) = 0 → False) :=
  ⟨fun _ => ⟨fun q => absurd rfl q, fun _ => ⟨pz_in (n := 0) (by omega) (by omega), fun _ => g, fun q => q ((lg_cmp_eq x y).mpr h)⟩⟩, fun q => q rfl⟩
theorem lw_fin1 {c : Int32} {G A : Prop} (hc : ¬ c = 0) (g : G) : (c = c → ((¬ c = 0 → G) ∧ (c = 0 → A))) ∧ (¬ c = c → False) :=
  ⟨fun _ => ⟨fun _ => g, fun q => absurd q hc⟩, fun q => q rfl⟩
theorem lw_finp {x : Int64} {r : Int32} {G : Prop} (h : (r = 0 ∧ x = 0) ∨ (r = 1 ∧ x = 1)) (g : G) : ((0 : Int32) = 0 → ((¬ (0 : Int32) = 0 → G) ∧ ((0 : Int32) = 0 → (vp_in (0 : Int32) 1 ∧ ((r = 0 → ((lg_cmp x 0 = 0 → G) ∧ (¬ lg_cmp x 0 = 0 → False))) ∧ (¬ r = 0 → ((lg_cmp x 1 = 0 → G) ∧ (¬ lg_cmp x 1 = 0 → False)))))))) ∧ (¬ (0 : Int32) = 0 → False) := by
  refine ⟨fun _ => ⟨fun q => absurd rfl q, fun _ => ⟨pz_in (n := 0) (by omega) (by omega), fun q => ⟨fun _ => g, fun z => z ?_⟩, fun q => ⟨fun _ => g, fun z => z ?_⟩⟩⟩, fun q => q rfl⟩
  · rcases h with ⟨h1, h2⟩ | ⟨h1, h2⟩
    · rw [h2]; decide
    · rw [h1] at q; exact absurd q (by decide)
  · rcases h with ⟨h1, h2⟩ | ⟨h1, h2⟩
    · exact absurd h1 q
    · rw [h2]; decide
