/-! the reference's calls: what stands between two calls -/
theorem rr_nn {i : Int32} (h : ¬ i < 0) : ∃ q, i = nI q ∧ q < 2 ^ 31 := by
  have h0 : 0 ≤ i.toInt := by
    rw [Int32.lt_iff_toInt_lt, show (0 : Int32).toInt = 0 from by decide] at h; omega
  have h1 := Int32.toInt_lt i
  refine ⟨i.toInt.toNat, ?_, by omega⟩
  apply Int32.toInt_inj.mp
  rw [nI_toInt (by omega)]
  omega
/-- nodes below m are as they were, but NAMES not found -/
def o_old (m : Nat) (s σ : c_S) : Prop := ∀ i, i < m → ¬ s.1 40 i = 0 → σ.1 40 i = s.1 40 i ∧ σ.1 41 i = s.1 41 i ∧ σ.1 42 i = s.1 42 i
theorem o_old.rf {m : Nat} {s : c_S} : o_old m s s := fun _ _ _ => ⟨rfl, rfl, rfl⟩
theorem o_old.tr {m : Nat} {s t u : c_S} (h : o_old m s t) (k : o_old m t u) : o_old m s u := fun i hi h0 => by
  obtain ⟨a, b, c⟩ := h i hi h0
  obtain ⟨a', b', c'⟩ := k i hi (by rw [a]; exact h0)
  exact ⟨a'.trans a, b'.trans b, c'.trans c⟩
theorem o_old.le {m m' : Nat} {s t : c_S} (h : o_old m s t) (hm : m' ≤ m) : o_old m' s t := fun i hi h0 => h i (by omega) h0
theorem x_old.o {m : Nat} {s σ : c_S} (h : x_old m s σ) : o_old m s σ := fun i hi _ => (h i hi).1
theorem o_ag.o {m : Nat} {s σ : c_S} (h : o_ag s σ) (hm : m ≤ 120000) : o_old m s σ := fun i hi h0 => h i (by omega) h0
theorem z_F.o {m : Nat} {S Y L : List Nat} {s t : c_S} (f : z_F S Y L s t) (hS : (!(c_has S 40) && !(c_has S 41) && !(c_has S 42)) = true) : o_old m s t := by
  simp only [Bool.and_eq_true, Bool.not_eq_true'] at hS
  exact fun n _ _ => by rw [f.1 40 hS.1.1 (by decide), f.1 41 hS.1.2 (by decide), f.1 42 hS.2 (by decide)]; exact ⟨rfl, rfl, rfl⟩
/-- objects and families below m, under other constants behind them -/
theorem o_T_b {σ σ' : c_S} {m : Nat} (h : o_old m σ σ') {κ κ' : Nat → Std.Format} {nc nc' : Nat} (hκ : ∀ c, c < nc → κ' c = κ c) (hnc : nc ≤ nc') : ∀ (k hh : Nat) (Γ : List Std.Format) (n : Nat) (τ : Std.Format), n < m → o_T σ κ nc k hh Γ n τ → o_T σ' κ' nc' k hh Γ n τ
  | 0, _, _, _, _, _, hx => hx.elim
  | k + 1, hh, Γ, n, τ, hm, hx => by
    obtain ⟨hn, hx⟩ := hx
    refine ⟨hn, ?_⟩
    rcases hx with ⟨e, i, i1, i2, i3⟩ | ⟨e, c, c1, c2, c3⟩ | ⟨e, b, h', s, r, q1, q2, q3, q4, q5, q6, q7⟩ | ⟨e, a, b, s, q1, q2, q3, q4, q5, q6⟩
    · obtain ⟨e0, e1, e2⟩ := h n hm (by rw [e]; decide)
      exact Or.inl ⟨e0.trans e, i, i1, e1.trans i2, i3⟩
    · obtain ⟨e0, e1, e2⟩ := h n hm (by rw [e]; decide)
      exact Or.inr (Or.inl ⟨e0.trans e, c, e1.trans c1, by omega, by rw [hκ c c2]; exact c3⟩)
    · obtain ⟨e0, e1, e2⟩ := h n hm (by rw [e]; decide)
      exact Or.inr (Or.inr (Or.inl ⟨e0.trans e, b, h', s, r, q1, e2.trans q2, q3, q4, q5, q6, o_T_b h hκ hnc k h' _ b r (by omega) q7⟩))
    · obtain ⟨e0, e1, e2⟩ := h n hm (by rw [e]; decide)
      exact Or.inr (Or.inr (Or.inr ⟨e0.trans e, a, b, s, e1.trans q1, e2.trans q2, q3, q4, o_T_b h hκ hnc k hh Γ a _ (by omega) q5, o_T_b h hκ hnc k hh Γ b _ (by omega) q6⟩))
theorem o_h_b {σ σ' : c_S} {m : Nat} (h : o_old m σ σ') : ∀ (k n c : Nat), n < m → o_h σ k n c → o_h σ' k n c
  | 0, _, _, _, hx => hx.elim
  | k + 1, n, c, hn, hx => by
    rcases hx with ⟨e, e2⟩ | ⟨e, a, a1, a2, a3⟩
    · obtain ⟨e0, e1, -⟩ := h n hn (by rw [e]; decide)
      exact Or.inl ⟨e0.trans e, e1.trans e2⟩
    · obtain ⟨e0, e1, -⟩ := h n hn (by rw [e]; decide)
      exact Or.inr ⟨e0.trans e, a, a1, e1.trans a2, o_h_b h k a c (by omega) a3⟩
theorem o_F_b {σ σ' : c_S} {m : Nat} (h : o_old m σ σ') {κ κ' : Nat → Std.Format} {nc nc' : Nat} (hκ : ∀ c, c < nc → κ' c = κ c) (hnc : nc ≤ nc') : ∀ (k hh : Nat) (Γ : List Std.Format) (n : Nat) (τ : Std.Format), n < m → o_F σ κ nc k hh Γ n τ → o_F σ' κ' nc' k hh Γ n τ
  | 0, _, _, _, _, _, hx => hx.elim
  | k + 1, hh, Γ, n, τ, hm, hx => by
    obtain ⟨hn, hx⟩ := hx
    refine ⟨hn, ?_⟩
    rcases hx with ⟨e, a, b, h', s, r, q1, q2, q3, q4, q5, q6, q7, q8⟩ | ⟨e, c, kk, h2, c0, c1, c2, c3, c4⟩ | ⟨e, e2⟩
    · obtain ⟨e0, e1, e2⟩ := h n hm (by rw [e]; decide)
      exact Or.inl ⟨e0.trans e, a, b, h', s, r, q1, e1.trans q2, e2.trans q3, q4, q5, q6, o_F_b h hκ hnc k h' Γ a s (by omega) q7, o_F_b h hκ hnc k h' _ b r (by omega) q8⟩
    · obtain ⟨e0, e1, e2⟩ := h n hm (by rcases e with e | e <;> (rw [e]; decide))
      exact Or.inr (Or.inl ⟨by rw [e0]; exact e, c, kk, h2, c0, by omega, c2, o_T_b h hκ hnc kk h2 Γ n _ hm c3, o_h_b h kk n c hm c4⟩)
    · obtain ⟨e0, -, -⟩ := h n hm (by rw [e]; decide)
      exact Or.inr (Or.inr ⟨e0.trans e, e2⟩)
/-- the constants: each of nodes and constants before it -/
def rr_K (s : c_S) (κ : Nat → Std.Format) (nc m : Nat) : Prop := nc ≤ 100 ∧ m ≤ 120000 ∧ (∃ A : Nat → Nat, A nc = m ∧ ∀ c, c < nc → A c ≤ A (c + 1) ∧ s.1 52 c = nI (A c) ∧ (f_n (κ c) ≤ 38 ∧ f_ok (κ c)) ∧ (∃ t k, s.1 50 c = nI t ∧ t < A (c + 1) ∧ o_F s κ c k 38 [] t (κ c)) ∧ (s.1 51 c = -1 ∨ ∃ mm k, s.1 51 c = nI mm ∧ mm < A (c + 1) ∧ o_T s κ c k 38 [] mm (κ c))) ∧ h_K s κ nc ∧ n_N s nc
theorem rr_A {A : Nat → Nat} {nc : Nat} (h : ∀ c, c < nc → A c ≤ A (c + 1)) : ∀ (k c : Nat), c + k ≤ nc → A c ≤ A (c + k)
  | 0, _, _ => Nat.le_refl _
  | k + 1, c, hc => Nat.le_trans (rr_A h k c (by omega)) (h (c + k) (by omega))
theorem rr_K.w {s : c_S} {κ : Nat → Std.Format} {nc m : Nat} (h : rr_K s κ nc m) : w_K s κ nc := by
  obtain ⟨h1, h0, ⟨A, hA, h2⟩, -, -⟩ := h
  refine ⟨h1, fun c hc => ?_⟩
  obtain ⟨-, -, q1, ⟨t, k, q2, q3, q4⟩, q5⟩ := h2 c hc
  refine ⟨q1, ⟨t, k, q2, o_F_b (m := t + 1) o_old.rf (fun _ _ => rfl) (by omega) k 38 [] t _ (by omega) q4⟩, ?_⟩
  rcases q5 with q5 | ⟨mm, k2, q5, q6, q7⟩
  · exact Or.inl q5
  · exact Or.inr ⟨mm, k2, q5, o_T_b (m := mm + 1) o_old.rf (fun _ _ => rfl) (by omega) k2 38 [] mm _ (by omega) q7⟩
theorem rr_K.of {s σ : c_S} {κ : Nat → Std.Format} {nc m : Nat} (h : rr_K s κ nc m) (ho : o_old m s σ) (e49 : σ.1 49 = s.1 49) (e50 : σ.1 50 = s.1 50) (e51 : σ.1 51 = s.1 51) (e52 : ∀ c, c < nc → σ.1 52 c = s.1 52 c) (e47 : σ.2 47 = s.2 47) (e48 : σ.2 48 = s.2 48) : rr_K σ κ nc m := by
  obtain ⟨h1, h0, ⟨A, hA, h2⟩, h3, h4⟩ := h
  have mono : ∀ c, c < nc → A (c + 1) ≤ m := fun c hc => by
    have := rr_A (fun c hc => (h2 c hc).1) (nc - (c + 1)) (c + 1) (by omega)
    rw [show c + 1 + (nc - (c + 1)) = nc by omega, hA] at this
    exact this
  refine ⟨h1, h0, ⟨A, hA, fun c hc => ?_⟩, fun c hc => by rw [e49]; exact h3 c hc, fun c hc => by rw [e47, e48]; exact h4 c hc⟩
  obtain ⟨q0, q1, q2, ⟨t, k, q3, q4, q5⟩, q6⟩ := h2 c hc
  have hm := mono c hc
  refine ⟨q0, (e52 c hc).trans q1, q2, ⟨t, k, by rw [e50]; exact q3, q4, o_F_b ho (fun _ _ => rfl) (Nat.le_refl _) k 38 [] t _ (by omega) q5⟩, ?_⟩
  rw [e51]
  rcases q6 with q6 | ⟨mm, k2, q6, q7, q8⟩
  · exact Or.inl q6
  · exact Or.inr ⟨mm, k2, q6, q7, o_T_b ho (fun _ _ => rfl) (Nat.le_refl _) k2 38 [] mm _ (by omega) q8⟩
/-- what lasts: constants, tokens' longs, steps, what was written out -/
def rr_W (κ : Nat → Std.Format) (nc m : Nat) (s : c_S) : Prop := rr_K s κ nc m ∧ s.1 34 21 = nI nc ∧ z_G s ∧ z_tp s ∧ (∃ S, S ≤ 60000 ∧ s.1 34 41 = nI S) ∧ (∃ o, o ≤ 2000 ∧ s.1 34 70 = nI o)
/-- all that reading, checking, EQUAL and telling may change -/
def rr_Z (s σ : c_S) : Prop := z_F [36, 37, 40, 41, 42, 43, 44, 45, 46, 53, 54, 55, 56, 57, 58, 59, 60, 61, 62, 63, 64, 65, 66, 67, 68] [0, 2, 3, 8, 9, 16, 17, 18, 19, 30, 33, 36, 40, 41, 42, 43, 44, 45, 46, 47, 48, 51, 52, 53, 54, 55, 59, 60, 61, 62, 64, 65, 66, 68] [38, 39] s σ
theorem rr_W.mv {κ : Nat → Std.Format} {nc m : Nat} {s σ : c_S} (h : rr_W κ nc m s) (x : rr_Z s σ) (ho : o_old m s σ) (hG : z_G σ) (hS : ∃ S, S ≤ 60000 ∧ σ.1 34 41 = nI S) : rr_W κ nc m σ := by
  obtain ⟨h1, h2, h3, h4, h5, h6⟩ := h
  exact ⟨h1.of ho (x.1 49 rfl (by decide)) (x.1 50 rfl (by decide)) (x.1 51 rfl (by decide)) (fun c _ => by rw [x.1 52 rfl (by decide)]) (x.2.2 47 rfl) (x.2.2 48 rfl), by rw [x.2.1 21 rfl]; exact h2, hG, h4.of (x.1 35 rfl (by decide)), hS, by rw [x.2.1 70 rfl]; exact h6⟩
/-- reading: no fault -/
def rr_L (N M m a : Nat) (s : c_S) : Prop := z_G s ∧ (N ≤ 4000 ∧ M ≤ 110000 ∧ s.1 36 N = 0) ∧ s.1 34 9 = 0 ∧ s.1 34 16 = nI m ∧ (s.1 34 8 = nI a ∧ a ≤ N ∧ m + 2 * (N - a) ≤ M)
theorem x_L.r {N M m a dd c : Nat} {s : c_S} (L : x_L N M m a dd c s) : rr_L N M m a s := ⟨L.1, L.2.1, L.2.2.1, L.2.2.2.1, L.2.2.2.2.1⟩
theorem rr_lt {N M m a : Nat} {s : c_S} (L : rr_L N M m a s) (h : ¬ s.1 36 a = 0) : a < N := by
  have h1 := L.2.2.2.2.2.1
  by_cases e : a = N
  · rw [e] at h; exact absurd L.2.1.2.2 h
  · omega
theorem rr_wrongL (d : Nat) (hd : 1 ≤ d) {N M m a : Nat} (k : Int32) (hk : 1 ≤ k.toInt ∧ k.toInt ≤ 11) (s : c_S) (L : rr_L N M m a s) : k_ok (c_M d 25 [v_r 34, v_i k, v_i (nI a)] s) (fun σ _ => z_F [] [9] [] s σ ∧ x_D M σ) := by
  obtain ⟨hG, h1, h2, h3, h4⟩ := L
  exact x_wrong d hd k hk a (by omega) s hG h2 h3 (by omega)
theorem rr_sign (d : Nat) (hd : 1 ≤ d) {N M m a : Nat} (k : Int32) (s : c_S) (L : rr_L N M m a s) : k_ok (c_M d 26 [v_r 34, v_i k] s) (fun σ r => σ = s ∧ c_bz r = true ∧ (¬ r = 0 → a < N)) := by
  obtain ⟨d, rfl⟩ : ∃ e, d = e + 1 := ⟨d - 1, by omega⟩
  have ha := L.2.2.2.2
  have hN := L.2.1.1
  rw [m_Rm_isSign, e_Rm_isSign_0, if_pos L.2.2.1, ha.1, c_rg_nI (by omega) (by decide), nI_clamp (show a < 2 ^ 31 by omega)]
  refine k_if (fun h3 => ?_) (fun _ => k_some ⟨rfl, by decide, fun h => absurd rfl h⟩)
  rw [c_rg_nI (by omega) (by decide)]
  exact k_if (fun _ => k_some ⟨rfl, by decide, fun _ => rr_lt L (by rw [h3]; decide)⟩) (fun _ => k_some ⟨rfl, by decide, fun h => absurd rfl h⟩)
theorem rr_isName (d : Nat) (hd : 1 ≤ d) {N M m a : Nat} (s : c_S) (L : rr_L N M m a s) : k_ok (c_M d 28 [v_r 34] s) (fun σ r => σ = s ∧ c_bz r = true ∧ (¬ r = 0 → a < N)) := by
  obtain ⟨d, rfl⟩ : ∃ e, d = e + 1 := ⟨d - 1, by omega⟩
  have ha := L.2.2.2.2
  have hN := L.2.1.1
  rw [m_Rm_isName, e_Rm_isName_0, if_pos L.2.2.1, ha.1, c_rg_nI (by omega) (by decide), nI_clamp (show a < 2 ^ 31 by omega)]
  refine k_if (fun h3 => ?_) (fun _ => k_some ⟨rfl, by decide, fun h => absurd rfl h⟩)
  have hlt : a < N := rr_lt L (by rw [h3]; decide)
  rw [c_rg_nI (by omega) (by decide)]
  refine k_if (fun _ => ?_) (fun _ => k_some ⟨rfl, by decide, fun _ => hlt⟩)
  rw [c_rg_nI (by omega) (by decide)]
  exact k_if (fun _ => k_some ⟨rfl, by decide, fun h => absurd rfl h⟩) (fun _ => k_some ⟨rfl, by decide, fun _ => hlt⟩)
theorem rr_L.adv {N M m a : Nat} {s : c_S} (L : rr_L N M m a s) (h : a < N) : rr_L N M m (a + 1) (c_put s 34 8 (nI (a + 1))) := by
  obtain ⟨hG, h1, h2, h3, h4⟩ := L
  have f : z_F [] [8] [] s (c_put s 34 8 (nI (a + 1))) := z_F.puf z_F.rf rfl
  exact ⟨hG.of f rfl, ⟨h1.1, h1.2.1, by rw [f.1 36 rfl (by decide)]; exact h1.2.2⟩, by rw [f.2.1 9 rfl]; exact h2, by rw [f.2.1 16 rfl]; exact h3, ⟨c_put_same, by omega, by omega⟩⟩
theorem rr_take (d : Nat) (hd : 2 ≤ d) {N M m a : Nat} (k : Int32) (s : c_S) (L : rr_L N M m a s) : k_ok (c_M d 29 [v_r 34, v_i k] s) (fun σ _ => z_F [] [8, 9] [] s σ ∧ (x_D M σ ∨ (a < N ∧ rr_L N M m (a + 1) σ))) := by
  obtain ⟨d, rfl⟩ : ∃ e, d = e + 1 := ⟨d - 1, by omega⟩
  rw [m_Rm_takeSign, e_Rm_takeSign_0]
  refine k_bd (rr_sign d (by omega) _ s L) (fun s_1 x_1 g_1 => ?_)
  obtain ⟨e1, -, g1⟩ := g_1
  have e1 := e1.symm
  subst e1
  refine k_if (fun _ => ?_) (fun hx => ?_)
  · rw [L.2.2.2.2.1]
    exact k_bd (rr_wrongL d (by omega) 1 (by decide) s L) (fun s_2 x_2 g_2 => k_some ⟨z_F.mono g_2.1 rfl, Or.inl g_2.2⟩)
  · rw [L.2.2.2.2.1, nI_1]
    exact k_some ⟨z_F.puf z_F.rf rfl, Or.inr ⟨g1 hx, L.adv (g1 hx)⟩⟩
theorem rr_L.fld {N M m a : Nat} {s σ : c_S} {S Y : List Nat} (L : rr_L N M m a s) (f : z_F S Y [] s σ) (hS : (!(c_has S 37) && !(c_has S 43) && !(c_has S 44) && !(c_has S 45) && !(c_has S 46)) = true) (hS2 : c_has S 36 = false) (hY : (!(c_has Y 8) && !(c_has Y 9) && !(c_has Y 16)) = true) : rr_L N M m a σ := by
  simp only [Bool.and_eq_true, Bool.not_eq_true'] at hY
  obtain ⟨hG, h1, h2, h3, h4⟩ := L
  exact ⟨hG.of f hS, ⟨h1.1, h1.2.1, by rw [f.1 36 hS2 (by decide)]; exact h1.2.2⟩, by rw [f.2.1 9 hY.1.2]; exact h2, by rw [f.2.1 16 hY.2]; exact h3, by rw [f.2.1 8 hY.1.1]; exact h4⟩
/-- a whole expression is read -/
theorem rr_rw (d : Nat) (hd : 180 ≤ d) {N M m a : Nat} (s : c_S) (L : rr_L N M m a s) : k_ok (c_M d 34 [v_r 34] s) (fun σ r => z_F [40, 41, 42, 43, 44, 45, 46] [8, 9, 16, 18, 19] [] s σ ∧ x_old m s σ ∧ (x_D M σ ∨ ∃ m' a' n w k, rr_L N M m' a' σ ∧ r = nI n ∧ n < m' ∧ a < a' ∧ m' + 2 * (N - a') + 1 ≤ m + 2 * (N - a) ∧ x_T σ m k 82 38 w n ∧ w ≤ 600)) := by
  obtain ⟨d, rfl⟩ : ∃ e, d = e + 1 := ⟨d - 1, by omega⟩
  rw [m_Rm_readWhole, e_Rm_readWhole_0]
  have f : z_F [] [18, 19] [] s (c_put (c_put s 34 18 0) 34 19 0) := z_F.puf (z_F.puf z_F.rf rfl) rfl
  have L0 : x_L N M m a 0 0 (c_put (c_put s 34 18 0) 34 19 0) := by
    have L1 := L.fld f rfl rfl rfl
    exact ⟨L1.1, L1.2.1, L1.2.2.1, L1.2.2.2.1, L1.2.2.2.2, ⟨by rw [c_put_get, if_neg (by decide), c_put_same]; rfl, by omega⟩, ⟨c_put_same, by omega⟩⟩
  refine k_bd (x_readE 41 d (by omega) N M m a 0 0 _ (by omega) (by omega) L0) (fun σ r g => k_some ?_)
  obtain ⟨f1, g1⟩ := g
  rcases g1 with ⟨D, oD⟩ | ⟨m', a', c', n, w, L1, er, n1, n2, a1, pot, ⟨-, -, k, tr⟩, o, cw⟩
  · exact ⟨z_F.tr (z_F.mono f rfl) f1, (x_old.of f rfl).tr oD, Or.inl D⟩
  · exact ⟨z_F.tr (z_F.mono f rfl) f1, (x_old.of f rfl).tr o, Or.inr ⟨m', a', n, w, k, L1.r, er, n2, a1, pot, tr, by have := L1.2.2.2.2.2.2.2; omega⟩⟩
theorem rr_rwD (d : Nat) (hd : 2 ≤ d) {M : Nat} (s : c_S) (h : x_D M s) : ∃ σ, c_M d 34 [v_r 34] s = some (σ, -1) ∧ z_F [] [18, 19] [] s σ ∧ x_D M σ := by
  obtain ⟨d, rfl⟩ : ∃ e, d = e + 1 := ⟨d - 1, by omega⟩
  rw [m_Rm_readWhole, e_Rm_readWhole_0]
  have f : z_F [] [18, 19] [] s (c_put (c_put s 34 18 0) 34 19 0) := z_F.puf (z_F.puf z_F.rf rfl) rfl
  have h1 := h.of f rfl
  rw [x_readED d (by omega) _ h1, c_bd_some]
  exact ⟨_, rfl, f, h1⟩
