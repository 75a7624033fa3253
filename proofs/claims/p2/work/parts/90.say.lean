/-! the signs of a name -/
def p_w (j : Int64) (k : Nat) : Prop := j.toInt = ((64 ^ k : Nat) : Int)
theorem p_div {j : Int64} (h : 0 ≤ j.toInt) : (j / 64).toInt = j.toInt / 64 := by
  rw [Int64.toInt_div_of_ne_right j 64 (by decide), show (64 : Int64).toInt = 64 from by decide, Int.tdiv_eq_ediv_of_nonneg h]
theorem p_up {j j1 : Int64} {k m : Nat} (h : p_w j k) (hm : 1 ≤ m) (hm9 : m ≤ 9) (h1 : z_lb j1 (64 ^ m)) (hn : ¬ j1 / 64 < j) : p_w (j * 64) (k + 1) ∧ k + 1 ≤ m - 1 := by
  rw [Int64.lt_iff_toInt_lt, p_div h1.1, h] at hn
  obtain ⟨m, rfl⟩ : ∃ e, m = e + 1 := ⟨m - 1, by omega⟩
  have e1 : (64 : Nat) ^ (m + 1) = 64 ^ m * 64 := Nat.pow_succ ..
  have h12 := h1.2
  rw [e1] at h12
  have hlt : 64 ^ k < 64 ^ m := by omega
  have hk : k < m := (Nat.pow_lt_pow_iff_right (by decide)).mp hlt
  have hP : (64 : Nat) ^ k ≤ 64 ^ 7 := Nat.pow_le_pow_right (by decide) (by omega)
  have e7 : (64 : Nat) ^ 7 = 4398046511104 := by decide
  refine ⟨?_, by omega⟩
  unfold p_w at h ⊢
  have hb : 0 ≤ ((64 ^ k : Nat) : Int) := Int.natCast_nonneg _
  rw [Int64.toInt_mul, h, show (64 : Int64).toInt = 64 from by decide, Nat.pow_succ, Int.bmod_def]
  omega
theorem p_dn {j : Int64} {k : Nat} (h : p_w j (k + 1)) : p_w (j / 64) k := by
  have e1 : (64 : Nat) ^ (k + 1) = 64 ^ k * 64 := Nat.pow_succ ..
  unfold p_w at h ⊢
  rw [p_div (by rw [h]; omega), h, e1]
  omega
theorem p_dn0 {j : Int64} (h : p_w j 0) : (j / 64) = 0 := by
  apply Int64.toInt_inj.mp
  unfold p_w at h
  rw [p_div (by rw [h]; decide), h]
  decide
theorem p_pos {j : Int64} {k : Nat} (h : p_w j k) : 0 < j ∧ ¬ j = 0 := by
  have hp : 0 < (64 : Nat) ^ k := Nat.pow_pos (by decide)
  unfold p_w at h
  refine ⟨by rw [Int64.lt_iff_toInt_lt, h, show (0 : Int64).toInt = 0 from by decide]; omega, fun e => ?_⟩
  rw [e, show (0 : Int64).toInt = 0 from by decide] at h
  omega
/-- what is said so far -/
def n_D (s : c_S) : Prop := ∃ D, D ≤ 2000 ∧ s.1 34 64 = nI D
theorem n_say (d : Nat) (hd : 1 ≤ d) (c : Int32) (s : c_S) (h : n_D s) : k_ok (c_M d 78 [v_r 34, v_i c] s) (fun σ _ => z_F [67] [64, 66] [] s σ ∧ n_D σ) := by
  obtain ⟨d, rfl⟩ : ∃ e, d = e + 1 := ⟨d - 1, by omega⟩
  obtain ⟨D, hD, e⟩ := h
  rw [m_Rm_say, e_Rm_say_0, e]
  refine k_if (fun _ => ?_) (fun hne => ?_)
  · have f : z_F [67] [64, 66] [] s (c_put s 34 66 1) := z_F.puf z_F.rf rfl
    refine k_some ⟨f, D, hD, ?_⟩
    rw [c_put_get, if_neg (by decide)]; exact e
  · have hlt : D < 2000 := by
      have : D ≠ 2000 := fun e => hne (by rw [e]; rfl)
      omega
    rw [c_rg_nI hlt (by decide), nI_clamp (show D < 2 ^ 31 by omega), nI_1]
    exact k_some ⟨z_F.puf (z_F.put z_F.rf rfl (by decide)) rfl, D + 1, by omega, c_put_same⟩
theorem n_sv2 (d : Nat) (hd : 1 ≤ d) (i1 : Int32) : ∀ (n : Nat) (i2 : Int32) (s : c_S), k_m i2 < n → n_D s → k_ok (b_Rm_sayVar_2 (c_M d) i1 i2 s) (fun σ _ => z_F [67] [64, 66] [] s σ ∧ n_D σ)
  | 0, _, _, hn, _ => absurd hn (by omega)
  | n + 1, i2, s, hn, h => by
    have f59 : ∀ s0 : c_S, n_D s0 → k_ok (b_Rm_sayVar_59 (c_M d) i1 s0) (fun σ _ => z_F [67] [64, 66] [] s0 σ ∧ n_D σ) := fun s0 h0 => by
      rw [e_Rm_sayVar_59]
      exact k_bd (n_say d hd _ s0 h0) (fun σ r g => k_some g)
    have f39 : ∀ s0 : c_S, n_D s0 → k_ok (b_Rm_sayVar_39 (c_M d) i1 s0) (fun σ _ => z_F [67] [64, 66] [] s0 σ ∧ n_D σ) := fun s0 h0 => by
      rw [e_Rm_sayVar_39]
      refine k_if (fun _ => ?_) (fun _ => f59 s0 h0)
      exact k_bd (n_say d hd _ s0 h0) (fun σ r g => k_mono (f59 σ g.2) (fun σ' r' g' => ⟨z_F.tr g.1 g'.1, g'.2⟩))
    rw [e_Rm_sayVar_2]
    refine k_if (fun hlt => ?_) (fun _ => k_if (fun _ => ?_) (fun _ => f39 s h))
    · exact k_bd (n_say d hd _ s h) (fun σ r g => k_mono (n_sv2 d hd i1 n (i2 + 1) σ (k_up hlt hn) g.2) (fun σ' r' g' => ⟨z_F.tr g.1 g'.1, g'.2⟩))
    · exact k_bd (n_say d hd _ s h) (fun σ r g => k_mono (f39 σ g.2) (fun σ' r' g' => ⟨z_F.tr g.1 g'.1, g'.2⟩))
theorem n_sayVar (d : Nat) (hd : 2 ≤ d) (i1 : Int32) (s : c_S) (h : n_D s) : k_ok (c_M d 81 [v_r 34, v_i i1] s) (fun σ _ => z_F [67] [64, 66] [] s σ ∧ n_D σ) := by
  obtain ⟨d, rfl⟩ : ∃ e, d = e + 1 := ⟨d - 1, by omega⟩
  rw [m_Rm_sayVar, e_Rm_sayVar_0]
  exact n_sv2 d (by omega) i1 (k_m 0 + 1) 0 s (by omega) h
theorem n_sp24 (d : Nat) (hd : 1 ≤ d) (j1 : Int64) : ∀ (k : Nat) (j3 j5 : Int64) (s : c_S), p_w j3 k → n_D s → k_ok (b_Rm_sayPart_24 (c_M d) j1 j3 j5 s) (fun σ _ => z_F [67] [64, 66] [] s σ ∧ n_D σ) := by
  have body : ∀ (j3 j5 : Int64) (s : c_S), (0 < j3 ∧ ¬ j3 = 0) → n_D s → (∀ (j5' : Int64) (s' : c_S), n_D s' → k_ok (b_Rm_sayPart_24 (c_M d) j1 (j3 / 64) j5' s') (fun σ _ => z_F [67] [64, 66] [] s' σ ∧ n_D σ)) → k_ok (b_Rm_sayPart_24 (c_M d) j1 j3 j5 s) (fun σ _ => z_F [67] [64, 66] [] s σ ∧ n_D σ) := by
    intro j3 j5 s hp h go
    rw [e_Rm_sayPart_24, if_pos ((lg_cmp_gt _ _).mpr hp.1)]
    refine k_if (fun _ => ?_) (fun _ => k_some ⟨z_F.rf, h⟩)
    rw [if_neg hp.2]
    have sg : ∃ r, c_M d 79 [v_i ((j5 / j3).toInt32)] s = some (s, r) := by
      obtain ⟨d, rfl⟩ : ∃ e, d = e + 1 := ⟨d - 1, by omega⟩
      rw [m_Rm_signOf, e_Rm_signOf_0]
      split
      · exact ⟨_, rfl⟩
      · split
        · exact ⟨_, rfl⟩
        · exact ⟨_, rfl⟩
    obtain ⟨r, er⟩ := sg
    rw [er, c_bd_some]
    refine k_bd (n_say d hd _ s h) (fun σ r g => ?_)
    rw [if_neg hp.2]
    exact k_mono (go _ σ g.2) (fun σ' r' g' => ⟨z_F.tr g.1 g'.1, g'.2⟩)
  intro k
  induction k with
  | zero =>
    intro j3 j5 s hp h
    refine body j3 j5 s (p_pos hp) h (fun j5' s' h' => ?_)
    rw [p_dn0 hp, e_Rm_sayPart_24, if_neg (by decide)]
    exact k_some ⟨z_F.rf, h'⟩
  | succ k ih =>
    intro j3 j5 s hp h
    exact body j3 j5 s (p_pos hp) h (fun j5' s' h' => ih (j3 / 64) j5' s' (p_dn hp) h')
theorem n_sp2 (d : Nat) (hd : 1 ≤ d) (j1 : Int64) (m : Nat) (hm : 1 ≤ m) (hm9 : m ≤ 9) (h1 : z_lb j1 (64 ^ m)) : ∀ (n k : Nat) (j3 : Int64) (s : c_S), m ≤ k + n → p_w j3 k → n_D s → k_ok (b_Rm_sayPart_2 (c_M d) j1 j3 s) (fun σ _ => z_F [67] [64, 66] [] s σ ∧ n_D σ)
  | 0, k, j3, s, hn, hp, h => by
    rw [e_Rm_sayPart_2]
    refine k_if (fun _ => n_sp24 d hd j1 k j3 j1 s hp h) (fun hne => ?_)
    have := (p_up hp hm hm9 h1 (fun e => hne ((lg_cmp_gt _ _).mpr e))).2
    omega
  | n + 1, k, j3, s, hn, hp, h => by
    rw [e_Rm_sayPart_2]
    refine k_if (fun _ => n_sp24 d hd j1 k j3 j1 s hp h) (fun hne => ?_)
    exact n_sp2 d hd j1 m hm hm9 h1 n (k + 1) (j3 * 64) s (by omega) (p_up hp hm hm9 h1 (fun e => hne ((lg_cmp_gt _ _).mpr e))).1 h
theorem n_sayPart (d : Nat) (hd : 2 ≤ d) (j1 : Int64) (m : Nat) (hm : 1 ≤ m) (hm9 : m ≤ 9) (h1 : z_lb j1 (64 ^ m)) (s : c_S) (h : n_D s) : k_ok (c_M d 80 [v_r 34, v_l j1] s) (fun σ _ => z_F [67] [64, 66] [] s σ ∧ n_D σ) := by
  obtain ⟨d, rfl⟩ : ∃ e, d = e + 1 := ⟨d - 1, by omega⟩
  rw [m_Rm_sayPart, e_Rm_sayPart_0]
  exact n_sp2 d (by omega) j1 m hm hm9 h1 m 0 1 s (by omega) (by unfold p_w; decide) h
theorem n_ended (d : Nat) (hd : 1 ≤ d) (i : Int32) (s : c_S) : ∃ r, c_M d 85 [v_r 34, v_i i] s = some (s, r) ∧ (r = 1 → i = 1) := by
  obtain ⟨d, rfl⟩ : ∃ e, d = e + 1 := ⟨d - 1, by omega⟩
  rw [m_Rm_ended, e_Rm_ended_0]
  by_cases h : i = 1
  · rw [if_pos h]
    split
    · exact ⟨_, rfl, fun _ => h⟩
    · exact ⟨_, rfl, fun _ => h⟩
  · rw [if_neg h]
    exact ⟨_, rfl, id⟩
theorem n_tl24 (d : Nat) (j1 : Int64) : ∀ (k q : Nat) (j3 j5 : Int64) (s : c_S), p_w j3 k → s.1 34 68 = nI q → q + k + 1 ≤ 12 → k_ok (b_Rm_takeLetters_24 (c_M d) j1 j3 j5 s) (fun σ _ => z_F [68] [68] [] s σ ∧ ∃ q', q' ≤ q + k + 1 ∧ σ.1 34 68 = nI q') := by
  intro k
  induction k with
  | zero =>
    intro q j3 j5 s hp e hq
    rw [e_Rm_takeLetters_24, if_pos ((lg_cmp_gt _ _).mpr (p_pos hp).1)]
    refine k_if (fun _ => ?_) (fun _ => k_some ⟨z_F.rf, q, by omega, e⟩)
    rw [if_neg (p_pos hp).2, e, c_rg_nI (by omega) (by decide), if_neg (p_pos hp).2, p_dn0 hp, e_Rm_takeLetters_24, if_neg (by decide), nI_1]
    exact k_some ⟨z_F.puf (z_F.put z_F.rf rfl (by decide)) rfl, q + 1, by omega, c_put_same⟩
  | succ k ih =>
    intro q j3 j5 s hp e hq
    rw [e_Rm_takeLetters_24, if_pos ((lg_cmp_gt _ _).mpr (p_pos hp).1)]
    refine k_if (fun _ => ?_) (fun _ => k_some ⟨z_F.rf, q, by omega, e⟩)
    rw [if_neg (p_pos hp).2, e, c_rg_nI (by omega) (by decide), if_neg (p_pos hp).2, nI_1]
    refine k_mono (ih (q + 1) (j3 / 64) _ _ (p_dn hp) c_put_same (by omega)) (fun σ r g => ⟨z_F.tr (z_F.puf (z_F.put z_F.rf rfl (by decide)) rfl) g.1, ?_⟩)
    obtain ⟨q', h1, h2⟩ := g.2
    exact ⟨q', by omega, h2⟩
theorem n_tl2 (d : Nat) (j1 : Int64) (m q : Nat) (hm : 1 ≤ m) (hm9 : m ≤ 9) (h1 : z_lb j1 (64 ^ m)) (hq : q + m ≤ 12) : ∀ (n k : Nat) (j3 : Int64) (s : c_S), m ≤ k + n → k + 1 ≤ m → p_w j3 k → s.1 34 68 = nI q → k_ok (b_Rm_takeLetters_2 (c_M d) j1 j3 s) (fun σ _ => z_F [68] [68] [] s σ ∧ ∃ q', q' ≤ q + m ∧ σ.1 34 68 = nI q')
  | 0, k, j3, s, hn, hk, hp, e => absurd hn (by omega)
  | n + 1, k, j3, s, hn, hk, hp, e => by
    rw [e_Rm_takeLetters_2]
    refine k_if (fun _ => ?_) (fun hne => ?_)
    · refine k_mono (n_tl24 d j1 k q j3 j1 s hp e (by omega)) (fun σ r g => ⟨g.1, ?_⟩)
      obtain ⟨q', h1, h2⟩ := g.2
      exact ⟨q', by omega, h2⟩
    · have hu := p_up hp hm hm9 h1 (fun e => hne ((lg_cmp_gt _ _).mpr e))
      exact n_tl2 d j1 m q hm hm9 h1 hq n (k + 1) (j3 * 64) s (by omega) (by omega) hu.1 e
theorem n_tl (d : Nat) (hd : 1 ≤ d) (j1 : Int64) (m q : Nat) (hm : 1 ≤ m) (hm9 : m ≤ 9) (h1 : z_lb j1 (64 ^ m)) (hq : q + m ≤ 12) (s : c_S) (e : s.1 34 68 = nI q) : k_ok (c_M d 84 [v_r 34, v_l j1] s) (fun σ _ => z_F [68] [68] [] s σ ∧ ∃ q', q' ≤ q + m ∧ σ.1 34 68 = nI q') := by
  obtain ⟨d, rfl⟩ : ∃ e, d = e + 1 := ⟨d - 1, by omega⟩
  rw [m_Rm_takeLetters, e_Rm_takeLetters_0]
  exact n_tl2 d j1 m q hm hm9 h1 hq m 0 1 s (by omega) hm (by unfold p_w; decide) e
theorem n_xs44 (d : Nat) (q : Nat) (hq : q ≤ 12) (s : c_S) (e : s.1 34 68 = nI q) : ∀ (m j : Nat) (i2 : Int32), q ≤ j + m → j ≤ q → (i2 = 0 ∨ i2 = 1) → ∃ r, b_Rm_isXs_44 (c_M d) i2 (nI j) s = some (s, r) ∧ (r = 0 ∨ r = 1) ∧ (¬ r = 0 → ¬ i2 = 0) := by
  have stop : ∀ i2 : Int32, (i2 = 0 ∨ i2 = 1) → ∃ r, (if c_bz i2 = true then some (s, i2) else none) = some (s, r) ∧ (r = 0 ∨ r = 1) ∧ (¬ r = 0 → ¬ i2 = 0) := by
    intro i2 h
    rcases h with rfl | rfl
    · exact ⟨0, by rw [if_pos (by decide)], Or.inl rfl, id⟩
    · exact ⟨1, by rw [if_pos (by decide)], Or.inr rfl, id⟩
  intro m
  induction m with
  | zero =>
    intro j i2 hm hj hi
    have : j = q := by omega
    subst this
    rw [e_Rm_isXs_44, e, if_neg (nI_nlt (Nat.le_refl _) (by omega))]
    exact stop i2 hi
  | succ m ih =>
    intro j i2 hm hj hi
    rw [e_Rm_isXs_44, e]
    by_cases hjq : j < q
    · rw [if_pos (nI_lt hjq (by omega))]
      by_cases h0 : i2 = 0
      · rw [if_pos h0]; exact stop i2 hi
      · rw [if_neg h0, nI_1, c_rg_nI (by omega) (by decide), c_rg_nI (by omega) (by decide)]
        have g1 : ∃ r, b_Rm_isXs_44 (c_M d) 1 (nI (j + 1)) s = some (s, r) ∧ (r = 0 ∨ r = 1) ∧ (¬ r = 0 → ¬ i2 = 0) := by
          obtain ⟨r, a, b, c⟩ := ih (j + 1) 1 (by omega) (by omega) (Or.inr rfl)
          exact ⟨r, a, b, fun _ => h0⟩
        have g0 : ∃ r, b_Rm_isXs_44 (c_M d) 0 (nI (j + 1)) s = some (s, r) ∧ (r = 0 ∨ r = 1) ∧ (¬ r = 0 → ¬ i2 = 0) := by
          obtain ⟨r, a, b, c⟩ := ih (j + 1) 0 (by omega) (by omega) (Or.inl rfl)
          exact ⟨r, a, b, fun _ => h0⟩
        split
        · split
          · exact g1
          · exact g0
        · split
          · exact g1
          · exact g0
    · rw [if_neg (nI_nlt (by omega) (by omega))]
      exact stop i2 hi
/-- the names of the constants -/
def n_N (s : c_S) (nc : Nat) : Prop := ∀ c, c < nc → z_lb (s.2 47 c) (64 ^ 9) ∧ z_lb (s.2 48 c) (64 ^ 3)
theorem n_isXs (d : Nat) (hd : 2 ≤ d) (c nc X : Nat) (hc : c < nc) (hnc : nc ≤ 100) (hX : X ≤ 1000) (s : c_S) (hN : n_N s nc) (e : s.1 34 65 = nI X) : k_ok (c_M d 83 [v_r 34, v_i (nI c)] s) (fun σ r => z_F [68] [68] [] s σ ∧ (¬ r = 0 → X < 12)) := by
  obtain ⟨d, rfl⟩ : ∃ e, d = e + 1 := ⟨d - 1, by omega⟩
  rw [m_Rm_isXs, e_Rm_isXs_0, c_rg_nI (by omega) (by decide), nI_clamp (show c < 2 ^ 31 by omega)]
  obtain ⟨n1, n2⟩ := hN c hc
  have f0 : z_F [68] [68] [] s (c_put s 34 68 0) := z_F.puf z_F.rf rfl
  refine k_bd (n_tl d (by omega) (s.2 47 c) 9 0 (by omega) (by omega) n1 (by omega) (c_put s 34 68 0) c_put_same) (fun s1 x1 g1 => ?_)
  obtain ⟨f1, q1, hq1, e1⟩ := g1
  rw [c_rg_nI (by omega) (by decide), f1.2.2 48 rfl, f0.2.2 48 rfl]
  refine k_bd (n_tl d (by omega) (s.2 48 c) 3 q1 (by omega) (by omega) n2 (by omega) s1 e1) (fun s2 x2 g2 => ?_)
  obtain ⟨f2, q2, hq2, e2⟩ := g2
  have f02 : z_F [68] [68] [] s s2 := z_F.tr f0 (z_F.tr f1 f2)
  have ex : s2.1 34 65 = nI X := by rw [f02.2.1 65 rfl]; exact e
  rw [ex, e2]
  by_cases hlt : X < q2
  · rw [if_pos (nI_lt hlt (by omega))]
    obtain ⟨r, er, hr, -⟩ := n_xs44 d q2 (by omega) s2 e2 q2 0 1 (by omega) (by omega) (Or.inr rfl)
    rw [show (0 : Int32) = nI 0 from rfl, er]
    exact k_some ⟨f02, fun _ => by omega⟩
  · rw [if_neg (nI_nlt (by omega) (by omega))]
    obtain ⟨r, er, hr, h0⟩ := n_xs44 d q2 (by omega) s2 e2 q2 0 0 (by omega) (by omega) (Or.inl rfl)
    have er' : b_Rm_isXs_44 (c_M d) 0 0 s2 = some (s2, r) := er
    rw [er']
    exact k_some ⟨f02, fun h => absurd rfl (h0 h)⟩
theorem n_xs15 (d : Nat) (hd : 2 ≤ d) (nc X : Nat) (hnc : nc ≤ 100) (hX : X ≤ 12) (P : c_S → Int32 → Prop) (s0 : c_S) (go : ∀ (i1 : Int32) (σ : c_S), z_F [68] [65, 68] [] s0 σ → (i1 = 0 ∧ σ.1 34 65 = nI X ∨ i1 = 1 ∧ X < 12 ∧ σ.1 34 65 = nI (X + 1)) → k_ok (b_Rm_countXs_7 (c_M d) i1 σ) P) : ∀ (m j : Nat) (i1 : Int32) (s : c_S), nc ≤ j + m → j ≤ nc → (i1 = 0 ∨ i1 = 1 ∧ X < 12) → z_F [68] [65, 68] [] s0 s → n_N s nc → s.1 34 21 = nI nc → s.1 34 65 = nI X → k_ok (b_Rm_countXs_15 (c_M d) i1 (nI j) s) P := by
  have stop : ∀ (i1 : Int32) (s : c_S), (i1 = 0 ∨ i1 = 1 ∧ X < 12) → z_F [68] [65, 68] [] s0 s → s.1 34 65 = nI X → k_ok (if i1 = 0 then b_Rm_countXs_7 (c_M d) i1 (c_put s 34 65 ((s.1 34 65) + 0)) else b_Rm_countXs_7 (c_M d) i1 (c_put s 34 65 ((s.1 34 65) + 1))) P := by
    intro i1 s hi f e
    rcases hi with rfl | ⟨rfl, hX12⟩
    · rw [if_pos rfl]
      refine go 0 _ (z_F.tr f (z_F.puf z_F.rf rfl)) (Or.inl ⟨rfl, ?_⟩)
      rw [c_put_same, e]; exact nI_add X 0
    · rw [if_neg (by decide)]
      refine go 1 _ (z_F.tr f (z_F.puf z_F.rf rfl)) (Or.inr ⟨rfl, hX12, ?_⟩)
      rw [c_put_same, e]; exact nI_1 X
  intro m
  induction m with
  | zero =>
    intro j i1 s hm hj hi f hN e21 e
    have : j = nc := by omega
    subst this
    rw [e_Rm_countXs_15, e21, if_neg (nI_nlt (Nat.le_refl _) (by omega))]
    exact stop i1 s hi f e
  | succ m ih =>
    intro j i1 s hm hj hi f hN e21 e
    rw [e_Rm_countXs_15, e21]
    by_cases hjn : j < nc
    · rw [if_pos (nI_lt hjn (by omega)), nI_1]
      rcases hi with rfl | ⟨rfl, hX12⟩
      · rw [if_pos rfl]
        refine k_bd (n_isXs d hd j nc X hjn hnc (by omega) s hN e) (fun s1 x1 g1 => ?_)
        obtain ⟨f1, h1⟩ := g1
        have f01 : z_F [68] [65, 68] [] s0 s1 := z_F.tr f (z_F.mono f1 rfl)
        have hN1 : n_N s1 nc := fun c hc => by rw [f1.2.2 47 rfl, f1.2.2 48 rfl]; exact hN c hc
        refine k_if (fun _ => ?_) (fun hx => ?_)
        · exact ih (j + 1) 0 s1 (by omega) (by omega) (Or.inl rfl) f01 hN1 (by rw [f1.2.1 21 rfl]; exact e21) (by rw [f1.2.1 65 rfl]; exact e)
        · exact ih (j + 1) 1 s1 (by omega) (by omega) (Or.inr ⟨rfl, h1 hx⟩) f01 hN1 (by rw [f1.2.1 21 rfl]; exact e21) (by rw [f1.2.1 65 rfl]; exact e)
      · rw [if_neg (by decide)]
        exact ih (j + 1) 1 s (by omega) (by omega) (Or.inr ⟨rfl, hX12⟩) f hN e21 e
    · rw [if_neg (nI_nlt (by omega) (by omega))]
      exact stop i1 s hi f e
theorem n_xs7 (d : Nat) (hd : 2 ≤ d) (nc : Nat) (hnc : nc ≤ 100) : ∀ (n X : Nat) (s : c_S), 12 ≤ X + n → X ≤ 12 → n_N s nc → s.1 34 21 = nI nc → s.1 34 65 = nI X → k_ok (b_Rm_countXs_7 (c_M d) 1 s) (fun σ _ => z_F [68] [65, 68] [] s σ)
  | 0, X, s, hn, hX, hN, e21, e => by
    rw [e_Rm_countXs_7, if_neg (by decide)]
    refine n_xs15 d hd nc X hnc hX _ s (fun i1 σ f h => ?_) nc 0 0 s (by omega) (by omega) (Or.inl rfl) z_F.rf hN e21 e
    rcases h with ⟨rfl, -⟩ | ⟨-, h, -⟩
    · rw [e_Rm_countXs_7, if_pos rfl]
      exact k_some f
    · omega
  | n + 1, X, s, hn, hX, hN, e21, e => by
    rw [e_Rm_countXs_7, if_neg (by decide)]
    refine n_xs15 d hd nc X hnc hX _ s (fun i1 σ f h => ?_) nc 0 0 s (by omega) (by omega) (Or.inl rfl) z_F.rf hN e21 e
    rcases h with ⟨rfl, -⟩ | ⟨rfl, h, e1⟩
    · rw [e_Rm_countXs_7, if_pos rfl]
      exact k_some f
    · exact k_mono (n_xs7 d hd nc hnc n (X + 1) σ (by omega) (by omega) (fun c hc => by rw [f.2.2 47 rfl, f.2.2 48 rfl]; exact hN c hc) (by rw [f.2.1 21 rfl]; exact e21) e1) (fun σ' r g => z_F.tr f g)
theorem n_countXs (d : Nat) (hd : 3 ≤ d) (nc : Nat) (hnc : nc ≤ 100) (s : c_S) (hN : n_N s nc) (e21 : s.1 34 21 = nI nc) : k_ok (c_M d 82 [v_r 34] s) (fun σ _ => z_F [68] [65, 68] [] s σ) := by
  obtain ⟨d, rfl⟩ : ∃ e, d = e + 1 := ⟨d - 1, by omega⟩
  rw [m_Rm_countXs, e_Rm_countXs_0]
  have f : z_F [68] [65, 68] [] s (c_put s 34 65 1) := z_F.puf z_F.rf rfl
  exact k_mono (n_xs7 d (by omega) nc hnc 12 1 _ (by omega) (by omega) (fun c hc => hN c hc) (by rw [f.2.1 21 rfl]; exact e21) c_put_same) (fun σ r g => z_F.tr f g)
