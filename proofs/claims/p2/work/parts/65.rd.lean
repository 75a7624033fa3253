theorem x_readA (f d : Nat) (hE : x_HE f d) (hE2 : x_HE f (d + 1)) (hd : 4 ≤ d) (N M m a dd c : Nat) (s : c_S) (hf : 41 ≤ dd + f) (hdd : dd ≤ 40) (L : x_L N M m a dd c s) (ha : a < N) : k_ok (c_M (d + 2) 38 [v_r 34] s) (x_E N M (2 * f + 2) (39 - dd) 39 0 m a dd c s) := by
  rw [m_Rm_readA, e_Rm_readA_0]
  refine k_bd (x_readP f d hE hd N M m a dd c s (by omega) hdd L ha) (fun s_1 x_1 g_1 => ?_)
  obtain ⟨f1, g1⟩ := g_1
  rcases g1 with ⟨D1, oD⟩ | ⟨m', a', c', n, w, L1, rfl, n1, n2, a1, pot, ⟨hz, hb, k, tr⟩, o1, cw⟩
  · rw [x_readA10D (d + 1) (by omega) _ _ s_1 D1]
    exact k_some (x_E.dead f1 D1 oD)
  · have hN := L.2.1.1
    rw [L.2.2.2.2.1.1]
    exact x_readA10 f d hE hE2 hd N M m a dd c a (by omega) s hf hdd (N + 1) m' a' c' n s_1 (by omega) ⟨f1, L1, n1, n2, a1, pot, o1, ⟨hz, hb rfl⟩, k, w, x_T_up _ _ _ _ _ _ _ _ _ _ _ (Nat.le_refl _) (Nat.le_refl _) (by omega) (Nat.le_refl _) rfl tr, cw⟩
theorem x_rb83D (d : Nat) (hd : 2 ≤ d) {M : Nat} (i1 i2 i3 i4 t0 : Int32) (s : c_S) (h : x_D M s) : b_Rm_readBinder_83 (c_M d) i1 i2 i3 i4 t0 s = some (s, -1) := by
  rw [e_Rm_readBinder_83, x_takeD d hd _ s h, c_bd_some, x_readED d (by omega) s h, c_bd_some, if_pos h.2.1]
theorem x_rb49D (d : Nat) (hd : 2 ≤ d) {M : Nat} (i1 i2 i3 : Int32) (s : c_S) (h : x_D M s) : k_ok (b_Rm_readBinder_49 (c_M d) i1 i2 i3 s) (fun σ _ => x_DP M s σ) := by
  have f : z_F [] [8] [] s (c_put s 34 8 (s.1 34 8 + 1)) := z_F.puf z_F.rf rfl
  have D := h.of f rfl
  rw [e_Rm_readBinder_49, x_takeD d hd _ _ D, c_bd_some, x_readED d (by omega) _ D, c_bd_some]
  refine k_if (fun _ => ?_) (fun _ => ?_)
  · rw [x_rb83D d hd _ _ _ _ _ _ D]; exact k_some ⟨z_F.mono f rfl, D⟩
  · rw [x_rb83D d hd _ _ _ _ _ _ D]; exact k_some ⟨z_F.mono f rfl, D⟩
set_option maxHeartbeats 1000000 in
theorem x_readBinder (f d : Nat) (hE : x_HE f d) (hd : 4 ≤ d) (N M m a dd c : Nat) (i1 : Int32) (s : c_S) (hf : 41 ≤ dd + f) (hdd : dd ≤ 40) (L : x_L N M m a dd c s) (ha : a < N) : k_ok (c_M (d + 1) 37 [v_r 34, v_i i1] s) (x_E N M (2 * f + 1) (39 - dd) 39 0 m a dd c s) := by
  rw [m_Rm_readBinder, e_Rm_readBinder_0]
  have hN := L.2.1.1
  refine k_bd (x_counts d (by omega) s L) (fun s_1 x_1 g_1 => ?_)
  obtain ⟨f1, D1 | ⟨hc1, L1⟩⟩ := g_1
  · rw [if_pos D1.2.1]
    exact k_some (x_E.dead (z_F.mono f1 rfl) D1 (x_old.of f1 rfl))
  · rw [if_neg (x_pos L1), L1.2.2.2.2.1.1, nI_1, L.2.2.2.2.1.1]
    have L2 := L1.adv ha
    have f2 : z_F [] [8] [] s_1 (c_put s_1 34 8 (nI (a + 1))) := z_F.puf z_F.rf rfl
    have f02 : z_F [40, 41, 42, 43, 44, 45, 46] [8, 9, 16, 18, 19] [] s (c_put s_1 34 8 (nI (a + 1))) := z_F.tr (z_F.mono f1 rfl) (z_F.mono f2 rfl)
    have o02 : x_old m s (c_put s_1 34 8 (nI (a + 1))) := (x_old.of f1 rfl).tr (x_old.of f2 rfl)
    generalize c_put s_1 34 8 (nI (a + 1)) = s2 at L2 f2 f02 o02 ⊢
    refine k_bd (x_isName d (by omega) s2 L2) (fun s_3 x_3 g_3 => ?_)
    obtain ⟨e3, -, g3⟩ := g_3
    have e3 := e3.symm
    subst e3
    refine k_if (fun _ => ?_) (fun hx => ?_)
    · rw [e_Rm_readBinder_40]
      refine k_bd (x_wrongL d (by omega) 1 (by decide) s2 L2) (fun s_4 x_4 g_4 => ?_)
      exact k_mono (x_rb49D d (by omega) _ _ _ s_4 g_4.2) (fun σ r g => x_E.dead (z_F.tr f02 (z_F.tr (z_F.mono g_4.1 rfl) (z_F.mono g.1 rfl))) g.2 (o02.tr ((x_old.of g_4.1 rfl).tr (x_old.of g.1 rfl))))
    · have ha1 := g3 hx
      rw [e_Rm_readBinder_49, L2.2.2.2.2.1.1, nI_1]
      have L3 := L2.adv ha1
      have f3 : z_F [] [8] [] s2 (c_put s2 34 8 (nI (a + 1 + 1))) := z_F.puf z_F.rf rfl
      refine k_bd (x_take d (by omega) _ _ L3) (fun s_4 x_4 g_4 => ?_)
      obtain ⟨f4, g4⟩ := g_4
      have f04 := z_F.tr f02 (z_F.tr (z_F.mono f3 rfl) (z_F.mono f4 rfl))
      have o04 : x_old m s s_4 := o02.tr ((x_old.of f3 rfl).tr (x_old.of f4 rfl))
      rcases g4 with D4 | ⟨a2, L4⟩
      · rw [x_readED d (by omega) s_4 D4, c_bd_some]
        refine k_if (fun _ => ?_) (fun _ => ?_)
        · rw [x_rb83D d (by omega) _ _ _ _ _ _ D4]; exact k_some (x_E.dead f04 D4 o04)
        · rw [x_rb83D d (by omega) _ _ _ _ _ _ D4]; exact k_some (x_E.dead f04 D4 o04)
      · refine k_bd (hE N M m (a + 1 + 1 + 1) dd (c + 1) s_4 hf hdd L4) (fun s_5 x_5 g_5 => ?_)
        obtain ⟨f5, g5⟩ := g_5
        have f05 := z_F.tr f04 f5
        rcases g5 with ⟨D5, oD⟩ | ⟨m5, a5, c5, n5, w5, L5, rfl, n51, n52, a51, pot5, ⟨hz5, -, k5, tr5⟩, o5, cw5⟩
        · refine k_if (fun _ => ?_) (fun _ => ?_)
          · rw [x_rb83D d (by omega) _ _ _ _ _ _ D5]; exact k_some (x_E.dead f05 D5 (o04.tr oD))
          · rw [x_rb83D d (by omega) _ _ _ _ _ _ D5]; exact k_some (x_E.dead f05 D5 (o04.tr oD))
        · have rest : ∀ t0 : Int32, k_ok (b_Rm_readBinder_83 (c_M d) i1 (nI a) (nI (a + 1)) (nI n5) t0 s_5) (x_E N M (2 * f + 1) (39 - dd) 39 0 m a dd c s) := by
            intro t0
            rw [e_Rm_readBinder_83]
            refine k_bd (x_take d (by omega) _ s_5 L5) (fun s_6 x_6 g_6 => ?_)
            obtain ⟨f6, g6⟩ := g_6
            have f06 := z_F.tr f05 (z_F.mono f6 rfl)
            rcases g6 with D6 | ⟨a6, L6⟩
            · rw [x_readED d (by omega) s_6 D6, c_bd_some, if_pos D6.2.1]; exact k_some (x_E.dead f06 D6 ((o04.tr o5).tr (x_old.of f6 rfl)))
            · refine k_bd (hE N M m5 (a5 + 1) dd c5 s_6 hf hdd L6) (fun s_7 x_7 g_7 => ?_)
              obtain ⟨f7, g7⟩ := g_7
              have f07 := z_F.tr f06 f7
              rcases g7 with ⟨D7, oD⟩ | ⟨m7, a7, c7, n7, w7, L7, rfl, n71, n72, a71, pot7, ⟨hz7, -, k7, tr7⟩, o7, cw7⟩
              · rw [if_pos D7.2.1]; exact k_some (x_E.dead f07 D7 (((o04.tr o5).tr (x_old.of f6 rfl)).tr (oD.le (by omega))))
              · rw [if_neg (x_pos L7)]
                have hm7 : m7 ≤ 110000 := by have := L7.2.2.2.2.1.2.2; have := L7.2.1.2.1; omega
                have hpM := L.2.2.2.2.1.2.2
                have fin : ∀ kd : Int32, (kd = 4 ∨ kd = 5) → k_ok (b_Rm_readBinder_111 (c_M d) (nI a) (nI (a + 1)) (nI n5) (nI n7) kd s_7) (x_E N M (2 * f + 1) (39 - dd) 39 0 m a dd c s) := by
                  intro kd hkd
                  rw [e_Rm_readBinder_111]
                  refine k_bd (x_node d (by omega) m7 (by omega) kd (nI n5) (nI n7) a a (by omega) (by omega) s_7 L7.1 L7.2.2.2.1) (fun s_8 x_8 g_8 => ?_)
                  obtain ⟨rfl, N8⟩ := g_8
                  have L8 := N8.live L7 (by omega)
                  obtain ⟨f8, G8, e16, o8, k81, k82, k83⟩ := N8
                  rw [c_rg_nI (by omega) (by decide), nI_clamp (show m7 < 2 ^ 31 by omega)]
                  have f9 : z_F [46] [] [] s_8 (c_put s_8 46 m7 (nI (a + 1))) := z_F.put z_F.rf rfl (by decide)
                  have L9 : x_L N M (m7 + 1) a7 dd c7 (c_put s_8 46 m7 (nI (a + 1))) := by
                    obtain ⟨hG, h1, h2, h3, h4, h5, h6⟩ := L8
                    exact ⟨⟨hG.1.of (c_put_ne (by decide)), hG.2.1.of rfl rfl, hG.2.2.put6 (Or.inr ⟨a + 1, by omega, rfl⟩)⟩, ⟨h1.1, h1.2.1, by rw [f9.1 36 rfl (by decide)]; exact h1.2.2⟩, by rw [f9.2.1 9 rfl]; exact h2, by rw [f9.2.1 16 rfl]; exact h3, ⟨by rw [f9.2.1 8 rfl]; exact h4.1, h4.2⟩, ⟨by rw [f9.2.1 18 rfl]; exact h5.1, h5.2⟩, ⟨by rw [f9.2.1 19 rfl]; exact h6.1, h6.2⟩⟩
                  have o89 : x_old m7 s_7 (c_put s_8 46 m7 (nI (a + 1))) := o8.tr (x_old.of f9 rfl)
                  have o57 : x_old m5 s_5 s_7 := (x_old.of f6 rfl).tr o7
                  refine k_some ⟨z_F.tr f07 (z_F.tr (z_F.mono f8 rfl) (z_F.mono f9 rfl)), Or.inr ⟨m7 + 1, a7, c7, m7, w5 + w7, L9, rfl, by omega, by omega, by omega, by omega, ⟨by omega, fun h => absurd h (by decide), ?_⟩, (o04.tr o5).tr ((o57.le (by omega)).tr (o89.le (by omega))), by omega⟩⟩
                  refine x_two (T1 := m5) (s1 := s_5) (s2 := s_7) (lo2 := m5) (by omega) (by omega) n52 (by omega) n72 (by omega) (by omega) tr5 (o57.tr (o89.le (by omega))) tr7 o89 ?_ ?_ (Or.inl ⟨?_, Nat.le_refl _, Nat.le_refl _, by omega, by omega, rfl⟩)
                  · rw [f9.1 41 rfl (by decide)]; exact k82
                  · rw [f9.1 42 rfl (by decide)]; exact k83
                  · rw [f9.1 40 rfl (by decide), k81]; exact hkd
                exact k_if (fun _ => fin 4 (Or.inl rfl)) (fun _ => fin 5 (Or.inr rfl))
          exact k_if (fun _ => rest 93) (fun _ => rest 125)
theorem x_E.up {N M g g' X X' Z Z' e m a dd dd' c : Nat} {s s1 σ σ' : c_S} {r : Int32} (h : x_E N M g X Z e m a (dd + 1) c s1 σ r) (f0 : z_F [40, 41, 42, 43, 44, 45, 46] [8, 9, 16, 18, 19] [] s s1) (o0 : x_old m s s1) (hg : g ≤ g') (hd : dd' = dd) (hσ : σ' = c_put σ 34 18 (σ.1 34 18 - 1)) (hX : X ≤ X') (hZ : Z ≤ Z' + 1) : x_E N M g' X' Z' e m a dd' c s σ' r := by
  subst hd hσ
  obtain ⟨f1, h⟩ := h
  have f2 : z_F [] [18] [] σ (c_put σ 34 18 (σ.1 34 18 - 1)) := z_F.puf z_F.rf rfl
  refine ⟨z_F.tr f0 (z_F.tr f1 (z_F.mono f2 rfl)), ?_⟩
  rcases h with ⟨D, oD⟩ | ⟨m', a', c', n, w, L, er, n1, n2, a1, pot, ⟨hz, hb, k, tr⟩, o, cw⟩
  · exact Or.inl ⟨D.of f2 rfl, o0.tr (oD.tr (x_old.of f2 rfl))⟩
  · exact Or.inr ⟨m', a', c', n, w, L.deep, er, n1, n2, a1, pot, ⟨by omega, fun h => (hb h).old (x_old.of f2 rfl (T := n + 1)) (by omega), k, x_T_up _ _ _ _ _ _ _ _ _ _ _ (Nat.le_refl _) (Nat.le_refl _) hg hX rfl (x_T_old (x_old.of f2 rfl (T := n + 1)) k g X w n (by omega) tr)⟩, o0.tr (o.tr (x_old.of f2 rfl)), cw⟩
set_option maxHeartbeats 1000000 in
theorem x_readE45 (f d : Nat) (hE : ∀ e, d ≤ e → x_HE f e) (hd : 4 ≤ d) (N M m a dd c : Nat) (s : c_S) (hf : 41 ≤ dd + (f + 1)) (hdd : dd ≤ 40) (L : x_L N M m a dd c s) (ha : a < N) : k_ok (b_Rm_readE_45 (c_M (d + 2)) s) (x_E N M (2 * (f + 1)) (38 - dd) 38 0 m a dd c s) := by
  rw [e_Rm_readE_45]
  refine k_bd (x_withinL (d + 2) (by omega) hdd s L) (fun s_1 x_1 g_1 => ?_)
  obtain ⟨f1, g1⟩ := g_1
  have f01 : z_F [40, 41, 42, 43, 44, 45, 46] [8, 9, 16, 18, 19] [] s s_1 := z_F.mono f1 rfl
  rcases g1 with D1 | ⟨h40, L1⟩
  · rw [x_signD (d + 2) (by omega) _ s_1 D1, c_bd_some, if_pos rfl, x_signD (d + 2) (by omega) _ s_1 D1, c_bd_some, if_pos rfl]
    refine k_bd (x_readAD (d + 2) (by omega) s_1 D1) (fun s_2 x_2 g_2 => ?_)
    rw [e_Rm_readE_96]
    have f3 : z_F [] [18] [] s_2 (c_put s_2 34 18 (s_2.1 34 18 - 1)) := z_F.puf z_F.rf rfl
    exact k_some (x_E.dead (z_F.tr f01 (z_F.tr (z_F.mono g_2.1 rfl) (z_F.mono f3 rfl))) (g_2.2.of f3 rfl) ((x_old.of f1 rfl).tr ((x_old.of g_2.1 rfl).tr (x_old.of f3 rfl))))
  · have o01 : x_old m s s_1 := x_old.of f1 rfl
    have bind : k_ok (b_Rm_readE_67 (c_M (d + 2)) s_1) (x_E N M (2 * (f + 1)) (38 - dd) 38 0 m a dd c s) := by
      rw [e_Rm_readE_67]
      refine k_bd (x_sign (d + 2) (by omega) _ s_1 L1) (fun s_2 x_2 g_2 => ?_)
      obtain ⟨e2, -, -⟩ := g_2
      have e2 := e2.symm
      subst e2
      refine k_bd (x_readBinder f (d + 1) (hE (d + 1) (by omega)) (by omega) N M m a (dd + 1) c _ s_1 (by omega) (by omega) L1 ha) (fun s_3 x_3 g_3 => ?_)
      rw [e_Rm_readE_96]
      exact k_some (g_3.up f01 o01 (by omega) rfl rfl (by omega) (by omega))
    refine k_bd (x_sign (d + 2) (by omega) _ s_1 L1) (fun s_2 x_2 g_2 => ?_)
    obtain ⟨e2, -, -⟩ := g_2
    have e2 := e2.symm
    subst e2
    refine k_if (fun _ => ?_) (fun _ => bind)
    refine k_bd (x_sign (d + 2) (by omega) _ s_1 L1) (fun s_3 x_3 g_3 => ?_)
    obtain ⟨e3, -, -⟩ := g_3
    have e3 := e3.symm
    subst e3
    refine k_if (fun _ => ?_) (fun _ => bind)
    refine k_bd (x_readA f d (hE d (by omega)) (hE (d + 1) (by omega)) hd N M m a (dd + 1) c s_1 (by omega) (by omega) L1 ha) (fun s_4 x_4 g_4 => ?_)
    rw [e_Rm_readE_96]
    exact k_some (g_4.up f01 o01 (by omega) rfl rfl (by omega) (by omega))
theorem x_readE : ∀ (f d : Nat), 4 * f + 8 ≤ d → x_HE f d
  | 0, d, hd => fun N M m a dd c s hf hdd L => absurd hf (by omega)
  | f + 1, d, hd => fun N M m a dd c s hf hdd L => by
    obtain ⟨d, rfl⟩ : ∃ e, d = e + 3 := ⟨d - 3, by omega⟩
    have go : a < N → k_ok (b_Rm_readE_45 (c_M (d + 2)) s) (x_E N M (2 * (f + 1)) (38 - dd) 38 0 m a dd c s) := fun ha => x_readE45 f d (fun e he => x_readE f e (by omega)) (by omega) N M m a dd c s hf hdd L ha
    rw [m_Rm_readE, e_Rm_readE_0, if_neg (x_pos L)]
    refine k_bd (x_isP (d + 2) (by omega) s L) (fun s_1 x_1 g_1 => ?_)
    obtain ⟨e1, -, g1⟩ := g_1
    have e1 := e1.symm
    subst e1
    refine k_if (fun _ => ?_) (fun hx => go (g1 hx))
    refine k_bd (x_sign (d + 2) (by omega) _ s L) (fun s_2 x_2 g_2 => ?_)
    obtain ⟨e2, -, g2⟩ := g_2
    have e2 := e2.symm
    subst e2
    refine k_if (fun _ => ?_) (fun hx => go (g2 hx))
    refine k_bd (x_sign (d + 2) (by omega) _ s L) (fun s_3 x_3 g_3 => ?_)
    obtain ⟨e3, -, g3⟩ := g_3
    have e3 := e3.symm
    subst e3
    refine k_if (fun _ => ?_) (fun hx => go (g3 hx))
    exact k_bd (x_wrongL (d + 2) (by omega) 1 (by decide) s L) (fun s_4 x_4 g_4 => k_some (x_E.dead (z_F.mono g_4.1 rfl) g_4.2 (x_old.of g_4.1 rfl)))
