theorem o_Y_eq {σ σ' : c_S} (h : σ'.1 40 = σ.1 40 ∧ σ'.1 41 = σ.1 41 ∧ σ'.1 42 = σ.1 42 ∧ σ'.1 34 17 = σ.1 34 17) {κ : Nat → Std.Format} {nc : Nat} : ∀ (k y : Nat) (Γ : List Std.Format) (n : Nat) (τ : Std.Format), o_Y σ κ nc k y Γ n τ → o_Y σ' κ nc k y Γ n τ
  | 0, _, _, _, _, hx => hx.elim
  | k + 1, y, Γ, n, τ, hx => by
    have ha : o_ag σ σ' := fun n _ _ => by rw [h.1, h.2.1, h.2.2.1]; exact ⟨rfl, rfl, rfl⟩
    obtain ⟨hn, hx⟩ := hx
    refine ⟨by rw [h.2.2.2]; exact hn, ?_⟩
    rw [h.1, h.2.1, h.2.2.1]
    rcases hx with ⟨kk, hh, q1, q2⟩ | ⟨e, i, b, kk, q1, q2, q3, q4, q5⟩ | hx | ⟨e, a, b, s, r, kk, q1, q2, q3, q4, q5⟩ | ⟨e, a, b, s, y', kk, hh, q1, q2, q3, q4, q5, q6, q7⟩
    · exact Or.inl ⟨kk, hh, q1, o_F_ag ha kk hh Γ n τ q2⟩
    · exact Or.inr (Or.inl ⟨e, i, b, kk, q1, q2, q3, q4, o_F_ag ha kk 37 _ b τ q5⟩)
    · exact Or.inr (Or.inr (Or.inl hx))
    · exact Or.inr (Or.inr (Or.inr (Or.inl ⟨e, a, b, s, r, kk, q1, q2, q3, o_F_ag ha kk 37 Γ a s q4, o_Y_eq h k y _ b r q5⟩)))
    · exact Or.inr (Or.inr (Or.inr (Or.inr ⟨e, a, b, s, y', kk, hh, q1, q2, q3, q4, q5, o_T_ag ha kk hh Γ b s q6, o_Y_eq h k y' Γ a _ q7⟩)))
theorem z_n {S Y L : List Nat} {s t : c_S} (f : z_F S Y L s t) (hS : (!(c_has S 40) && !(c_has S 41) && !(c_has S 42) && !(c_has Y 17)) = true) : t.1 40 = s.1 40 ∧ t.1 41 = s.1 41 ∧ t.1 42 = s.1 42 ∧ t.1 34 17 = s.1 34 17 := by
  simp only [Bool.and_eq_true, Bool.not_eq_true'] at hS
  exact ⟨f.1 40 hS.1.1.1 (by decide), f.1 41 hS.1.1.2 (by decide), f.1 42 hS.1.2 (by decide), f.2.1 17 hS.2⟩
theorem o_F_0 {σ : c_S} {κ : Nat → Std.Format} {nc kk h n : Nat} {Γ : List Std.Format} {τ : Std.Format} (hx : o_F σ κ nc kk h Γ n τ) : n < 120000 ∧ (σ.1 40 n = 5 ∨ σ.1 40 n = 3 ∨ σ.1 40 n = 6 ∨ σ.1 40 n = 1) := by
  cases kk with
  | zero => exact hx.elim
  | succ kk =>
    obtain ⟨hn, hx⟩ := hx
    refine ⟨hn, ?_⟩
    rcases hx with ⟨e2, -⟩ | ⟨e2 | e2, -⟩ | ⟨e2, -⟩
    · exact Or.inl e2
    · exact Or.inr (Or.inl e2)
    · exact Or.inr (Or.inr (Or.inl e2))
    · exact Or.inr (Or.inr (Or.inr e2))
set_option maxHeartbeats 1000000 in
theorem w_shY (d : Nat) (hd : 2 ≤ d) {κ : Nat → Std.Format} {nc NW : Nat} : ∀ (ky y k n C L : Nat) (Γ xs : List Std.Format) (τ : Std.Format) (l : Int32) (s : c_S), w_K s κ nc → s.1 34 30 = nI C → s.1 34 33 = nI L → C + y + xs.length ≤ 400000 → L + y + xs.length ≤ 400000 → y + xs.length ≤ 16000 → o_Y s κ nc ky y Γ n (f_l xs τ) → w_W s κ nc C L NW k (.inr l) Γ → w_P s κ nc C L NW xs → k_ok (b_Rm_shows_8 (c_M d) (nI n) l (nI xs.length) s) (w_sP κ nc C L NW (y + xs.length) τ s)
  | 0, _, _, _, _, _, _, _, _, _, _, _, _, _, _, _, _, hx, _, _ => hx.elim
  | ky + 1, y, k, n, C, L, Γ, xs, τ, l, s, hK, e30, e33, hC, hL, hp, hx, hW, hP => by
    obtain ⟨⟨hn, -⟩, hx⟩ := hx
    rcases hx with ⟨kk, hh, q1, q2⟩ | ⟨e, i, b, kk, q1, q2, q3, q4, q5⟩ | ⟨e, c, c1, c2, c3⟩ | ⟨e, a, b, s', r', kk, q1, q2, q3, q4, q5⟩ | ⟨e, a, b, s', y', kk, hh, q1, q2, q3, q4, q5, q6, q7⟩
    · exact k_mono (w_shF d hd kk hh k n C L Γ xs τ l s q1 e30 e33 (by omega) (by omega) (by omega) q2 hW hP) (fun σ r g => g.pre z_F.rf w_ag.rf (Nat.le_refl _) (Nat.le_refl _) (by omega) (by omega))
    · rw [e_Rm_shows_8, c_rg_nI hn (by decide), nI_clamp (show n < 2 ^ 31 by omega), if_pos e, e_Rm_shows_19, c_rg_nI hn (by decide), nI_clamp (show n < 2 ^ 31 by omega), q3]
      obtain ⟨l', k', e2, hk', hw'⟩ := w_without d (by omega) (by omega) s i k (by omega) l Γ q1 hW
      rw [e2, c_bd_some, c_rg_nI hn (by decide), q4]
      exact k_mono (w_shF d hd kk 37 k' b C L (Γ.drop i) xs τ l' s (by omega) e30 e33 (by omega) (by omega) (by omega) q5 hw' hP) (fun σ r g => g.pre z_F.rf w_ag.rf (Nat.le_refl _) (Nat.le_refl _) (by omega) (by omega))
    · have hnc := hK.1
      obtain ⟨-, ⟨t, kt, ht, htF⟩, -⟩ := hK.2 c c2
      rw [e_Rm_shows_8, c_rg_nI hn (by decide), nI_clamp (show n < 2 ^ 31 by omega), if_neg (by rw [e]; decide), e_Rm_shows_43, c_rg_nI hn (by decide), nI_clamp (show n < 2 ^ 31 by omega), if_pos e, e_Rm_shows_54, c_rg_nI hn (by decide), nI_clamp (show n < 2 ^ 31 by omega), c1, c_rg_nI (by omega) (by decide), nI_clamp (show c < 2 ^ 31 by omega), ht]
      rw [← c3] at htF
      exact k_mono (w_shF d hd kt 38 1 t C L [] xs τ (-1) s (by omega) e30 e33 (by omega) (by omega) (by omega) htF rfl hP) (fun σ r g => g.pre z_F.rf w_ag.rf (Nat.le_refl _) (Nat.le_refl _) (by omega) (by omega))
    · rw [e_Rm_shows_8, c_rg_nI hn (by decide), nI_clamp (show n < 2 ^ 31 by omega), if_neg (by rw [e]; decide), e_Rm_shows_43, c_rg_nI hn (by decide), nI_clamp (show n < 2 ^ 31 by omega), if_neg (by rw [e]; decide), e_Rm_shows_72, c_rg_nI hn (by decide), nI_clamp (show n < 2 ^ 31 by omega), if_neg (by rw [e]; decide), e_Rm_shows_118]
      cases xs with
      | nil =>
        rw [if_neg (show ¬ (0 : Int32) < nI ([] : List Std.Format).length by decide), e_Rm_shows_162]
        obtain ⟨d, rfl⟩ : ∃ e, d = e + 1 := ⟨d - 1, by omega⟩
        rw [m_Rm_shown, e_Rm_shown_0, c_rg_nI hn (by decide), nI_clamp (show n < 2 ^ 31 by omega), if_neg (by rw [e]; decide), c_rg_nI hn (by decide), if_pos e, e_Rm_shown_33, c_rg_nI hn (by decide), c_rg_nI hn (by decide), nI_clamp (show n < 2 ^ 31 by omega), q1, q2, c_bd_some]
        have f : z_F [] [43, 44, 45, 46, 47, 48] [] s (c_put (c_put (c_put (c_put s 34 43 (nI a)) 34 44 l) 34 45 (nI b)) 34 46 l) := z_F.puf (z_F.puf (z_F.puf (z_F.puf z_F.rf rfl) rfl) rfl) rfl
        have fa : w_ag C L NW s (c_put (c_put (c_put (c_put s 34 43 (nI a)) 34 44 l) 34 45 (nI b)) 34 46 l) := ⟨o_ag.of f rfl, fun h _ => by rw [f.1 53 rfl (by decide), f.1 54 rfl (by decide)]; exact ⟨rfl, rfl⟩, fun h _ => by rw [f.1 55 rfl (by decide), f.1 56 rfl (by decide)]; exact ⟨rfl, rfl⟩, fun h _ => by rw [f.1 59 rfl (by decide), f.1 60 rfl (by decide)]; exact ⟨rfl, rfl⟩⟩
        refine k_bz (by decide) ⟨z_F.mono f rfl, fa, by decide, C, L, by rw [f.2.1 30 rfl]; exact e30, by rw [f.2.1 33 rfl]; exact e33, Nat.le_refl _, Nat.le_refl _, Or.inl ⟨rfl, s', r', a, b, l, l, Γ, kk, ky, k, y, Nat.le_refl _, Nat.le_refl _, q3, ?_, ?_, ?_, c_put_same, rfl, o_F_ag fa.1 kk 37 Γ a s' q4, o_Y_eq (z_n f rfl) ky y _ b r' q5, w_W_ag fa k _ _ hW⟩⟩
        · rw [c_put_get, if_neg (by decide), c_put_get, if_neg (by decide), c_put_get, if_neg (by decide), c_put_same]
        · rw [c_put_get, if_neg (by decide), c_put_get, if_neg (by decide), c_put_same]
        · rw [c_put_get, if_neg (by decide), c_put_same]
      | cons x xs =>
        have hlen : (x :: xs).length = xs.length + 1 := rfl
        rw [hlen] at hC hL hp ⊢
        obtain ⟨e0, e1⟩ := f_a_inj (show f_a x (f_l xs τ) = f_a s' r' from q3)
        subst e0 e1
        obtain ⟨⟨N, Γ2, k3, h3, k4, p1, p2, p3, p4, p5⟩, hP2⟩ := hP
        rw [if_pos (show (0 : Int32) < nI (xs.length + 1) from nI_lt (a := 0) (by omega) (by omega)), e_Rm_shows_123, i32_m1, nI_pred, e_Rm_shows_126, c_rg_nI (by omega) (by decide), c_rg_nI (by omega) (by decide), nI_clamp (show xs.length < 2 ^ 31 by omega), p1]
        obtain ⟨σ1, es1, f1, m1, m2, m3, m4⟩ := w_closure d (by omega) (nI N) (s.1 63 xs.length) s C (by omega) e30
        rw [es1, c_bd_some]
        obtain ⟨σ2, es2, f2, l1, l2, l3, l4⟩ := w_list d (by omega) (nI C) l σ1 L (by omega) (by rw [f1.2.1 33 rfl]; exact e33)
        rw [es2, c_bd_some, e_Rm_shows_152, c_rg_nI hn (by decide), nI_clamp (show n < 2 ^ 31 by omega), f2.1 42 rfl (by decide), f1.1 42 rfl (by decide), q2]
        have a1 : w_ag C L NW s σ1 := ⟨o_ag.of f1 rfl, m4, fun h _ => by rw [f1.1 55 rfl (by decide), f1.1 56 rfl (by decide)]; exact ⟨rfl, rfl⟩, fun h _ => by rw [f1.1 59 rfl (by decide), f1.1 60 rfl (by decide)]; exact ⟨rfl, rfl⟩⟩
        have a2 : w_ag C L NW σ1 σ2 := ⟨o_ag.of f2 rfl, fun h _ => by rw [f2.1 53 rfl (by decide), f2.1 54 rfl (by decide)]; exact ⟨rfl, rfl⟩, l4, fun h _ => by rw [f2.1 59 rfl (by decide), f2.1 60 rfl (by decide)]; exact ⟨rfl, rfl⟩⟩
        have aa := a1.tr a2
        have hcl : w_W σ2 κ nc (C + 1) (L + 1) NW (k4 + 1) (.inl C) [x] := ⟨by omega, Or.inl ⟨x, N, Γ2, rfl, by rw [f2.1 53 rfl (by decide)]; exact m2, ⟨k3, h3, p2, o_T_ag aa.1 k3 h3 Γ2 N x p3⟩, by rw [f2.1 54 rfl (by decide), m3]; exact w_W_up (by omega) (by omega) (Nat.le_refl _) k4 k4 _ Γ2 (Nat.le_refl _) (w_W_ag aa k4 _ Γ2 p4)⟩⟩
        have hl2 : w_W σ2 κ nc (C + 1) (L + 1) NW (max (k4 + 1) k + 1) (.inr (nI L)) (x :: Γ) := ⟨L, C, rfl, by omega, l2, p5, w_W_up (Nat.le_refl _) (Nat.le_refl _) (Nat.le_refl _) (k4 + 1) _ _ _ (by omega) hcl, by rw [l3]; exact w_W_up (by omega) (by omega) (Nat.le_refl _) k _ _ Γ (by omega) (w_W_ag aa k _ Γ hW)⟩
        have hP3 : w_P σ2 κ nc (C + 1) (L + 1) NW xs := w_P_ag aa (by omega) (by omega) xs (fun i _ => by rw [f2.1 62 rfl (by decide), f1.1 62 rfl (by decide), f2.1 63 rfl (by decide), f1.1 63 rfl (by decide)]; exact ⟨rfl, rfl⟩) hP2
        have fz : z_F [53, 54, 55, 56, 62, 63] [30, 33, 43, 44, 45, 46, 47, 48] [] s σ2 := z_F.tr (z_F.mono f1 rfl) (z_F.mono f2 rfl)
        refine k_mono (w_shY d hd ky y _ b (C + 1) (L + 1) (x :: Γ) xs τ (nI L) σ2 (w_K_ag hK aa.1 (fz.1 50 rfl (by decide)) (fz.1 51 rfl (by decide))) (by rw [f2.2.1 30 rfl]; exact m1) l1 (by omega) (by omega) (by omega) (o_Y_eq (z_n fz rfl) ky y _ b _ q5) hl2 hP3) (fun σ r g => g.pre fz aa (by omega) (by omega) (by omega) (by omega))
    · rw [e_Rm_shows_8, c_rg_nI hn (by decide), nI_clamp (show n < 2 ^ 31 by omega), if_neg (by rw [e]; decide), e_Rm_shows_43, c_rg_nI hn (by decide), nI_clamp (show n < 2 ^ 31 by omega), if_neg (by rw [e]; decide), e_Rm_shows_72, c_rg_nI hn (by decide), nI_clamp (show n < 2 ^ 31 by omega), if_pos e, e_Rm_shows_83, c_rg_nI hn (by decide), c_rg_nI (by omega) (by decide), c_rg_nI (by omega) (by decide), c_rg_nI hn (by decide), nI_clamp (show n < 2 ^ 31 by omega), nI_clamp (show xs.length < 2 ^ 31 by omega), nI_1, q2, q3]
      have f : z_F [62, 63] [] [] s (c_put (c_put s 62 xs.length (nI b)) 63 xs.length l) := z_F.put (z_F.put z_F.rf rfl (by decide)) rfl (by decide)
      have fa : w_ag C L NW s (c_put (c_put s 62 xs.length (nI b)) 63 xs.length l) := ⟨o_ag.of f rfl, fun h _ => by rw [f.1 53 rfl (by decide), f.1 54 rfl (by decide)]; exact ⟨rfl, rfl⟩, fun h _ => by rw [f.1 55 rfl (by decide), f.1 56 rfl (by decide)]; exact ⟨rfl, rfl⟩, fun h _ => by rw [f.1 59 rfl (by decide), f.1 60 rfl (by decide)]; exact ⟨rfl, rfl⟩⟩
      have hP2 : w_P (c_put (c_put s 62 xs.length (nI b)) 63 xs.length l) κ nc C L NW (s' :: xs) := by
        refine ⟨⟨b, Γ, kk, hh, k, by rw [c_put_off (by decide), c_put_same], q4, o_T_ag fa.1 kk hh Γ b s' q6, by rw [c_put_same]; exact w_W_ag fa k _ Γ hW, q5⟩, w_P_ag fa (Nat.le_refl _) (Nat.le_refl _) xs (fun i hi => ⟨?_, ?_⟩) hP⟩
        · rw [c_put_off (by decide), c_put_get, if_neg (by omega)]
        · rw [c_put_get, if_neg (by omega), c_put_off (by decide)]
      refine k_mono (w_shY d hd ky y' k a C L Γ (s' :: xs) τ l _ (w_K_ag hK fa.1 (f.1 50 rfl (by decide)) (f.1 51 rfl (by decide))) (by rw [f.2.1 30 rfl]; exact e30) (by rw [f.2.1 33 rfl]; exact e33) ?_ ?_ ?_ (o_Y_eq (z_n f rfl) ky y' Γ a _ q7) (w_W_ag fa k _ Γ hW) hP2) (fun σ r g => g.pre (z_F.mono f rfl) fa (Nat.le_refl _) (Nat.le_refl _) ?_ ?_)
      all_goals (rw [List.length_cons]; omega)
/-- shows: a { }, or a family with its objects -/
theorem w_shows (d : Nat) (hd : 3 ≤ d) {κ : Nat → Std.Format} {nc NW : Nat} (ky y k n C L : Nat) (Γ : List Std.Format) (τ : Std.Format) (l : Int32) (s : c_S) (hK : w_K s κ nc) (e30 : s.1 34 30 = nI C) (e33 : s.1 34 33 = nI L) (hC : C + y ≤ 400000) (hL : L + y ≤ 400000) (hy : y ≤ 16000) (hx : o_Y s κ nc ky y Γ n τ) (hW : w_W s κ nc C L NW k (.inr l) Γ) : k_ok (c_M d 48 [v_r 34, v_i (nI n), v_i l] s) (w_sP κ nc C L NW y τ s) := by
  obtain ⟨d, rfl⟩ : ∃ e, d = e + 1 := ⟨d - 1, by omega⟩
  rw [m_Rm_shows, e_Rm_shows_0]
  exact w_shY d (by omega) ky y k n C L Γ [] τ l s hK e30 e33 hC hL hy hx hW trivial
