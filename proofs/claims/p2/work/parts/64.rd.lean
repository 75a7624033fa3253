theorem x_pos {N M m a dd c : Nat} {s : c_S} (L : x_L N M m a dd c s) : ¬ (0 : Int32) < s.1 34 9 := by rw [L.2.2.1]; decide
theorem x_withinL (d : Nat) (hd : 2 ≤ d) {N M m a dd c : Nat} (hdd : dd ≤ 40) (s : c_S) (L : x_L N M m a dd c s) : k_ok (c_M d 32 [v_r 34] s) (fun σ _ => z_F [] [9, 18] [] s σ ∧ (x_D M σ ∨ (dd < 40 ∧ x_L N M m a (dd + 1) c σ))) :=
  k_mono (x_within d hd s L) (fun σ r g => ⟨g.1, g.2.elim Or.inl (fun h => h.elim Or.inr (fun h => absurd h.1 (by omega)))⟩)
theorem x_leaf (d : Nat) (hd : 1 ≤ d) {N M m a dd c c0 g X : Nat} (hZ : dd ≤ 39) (t0 : Int32) (ht : t0 = 0 ∨ t0 = 1) (s0 s : c_S) (f0 : z_F [40, 41, 42, 43, 44, 45, 46] [8, 9, 16, 18, 19] [] s0 s) (o0 : x_old m s0 s) (L : x_L N M m a (dd + 1) c s) (ha : a < N) (hc : c0 + 1 ≤ c) : k_ok (b_Rm_readP_82 (c_M d) t0 s) (x_E N M g X 39 1 m a dd c0 s0) := by
  obtain ⟨hG, h1, h2, h3, h4, h5, h6⟩ := id L
  rw [e_Rm_readP_82, h4.1]
  refine k_bd (x_node d hd m (by omega) t0 (-1) (-1) a a (by omega) (by omega) s hG h3) (fun s_1 x_1 g_1 => ?_)
  obtain ⟨rfl, f1, G1, e16, o1, k1, k2, k3⟩ := g_1
  rw [f1.2.1 8 rfl, h4.1, nI_1, f1.2.1 18 rfl, h5.1, nI_pred]
  have f2 : z_F [] [8, 18] [] s_1 (c_put (c_put s_1 34 8 (nI (a + 1))) 34 18 (nI dd)) := z_F.puf (z_F.puf z_F.rf rfl) rfl
  refine k_some ⟨z_F.tr f0 (z_F.tr (z_F.mono f1 rfl) (z_F.mono f2 rfl)), Or.inr ⟨m + 1, a + 1, c, m, 0, ⟨G1.of f2 rfl, ⟨h1.1, h1.2.1, ?_⟩, ?_, ?_, ⟨?_, by omega, by omega⟩, ⟨c_put_same, by omega⟩, ⟨?_, h6.2⟩⟩, rfl, Nat.le_refl _, by omega, by omega, by omega, ⟨hZ, fun _ => x_hb_leaf (by rw [f2.1 40 rfl (by decide), k1]; exact ht), 1, by omega, by omega, Or.inl ?_⟩, ?_, by omega⟩⟩
  · rw [f2.1 36 rfl (by decide), f1.1 36 rfl (by decide)]; exact h1.2.2
  · rw [f2.2.1 9 rfl, f1.2.1 9 rfl]; exact h2
  · rw [f2.2.1 16 rfl]; exact e16
  · rw [c_put_get, if_neg (by decide), c_put_same]
  · rw [f2.2.1 19 rfl, f1.2.1 19 rfl]; exact h6.1
  · rw [f2.1 40 rfl (by decide), k1]; exact ht
  · exact o0.tr (o1.tr (x_old.of f2 rfl))
theorem x_readP (f d : Nat) (hE : x_HE f d) (hd : 4 ≤ d) (N M m a dd c : Nat) (s : c_S) (hf : 40 ≤ dd + f) (hdd : dd ≤ 40) (L : x_L N M m a dd c s) (ha : a < N) : k_ok (c_M (d + 1) 39 [v_r 34] s) (x_E N M (2 * f) (37 - dd) 39 1 m a dd c s) := by
  rw [m_Rm_readP, e_Rm_readP_0]
  refine k_bd (x_withinL d (by omega) hdd s L) (fun s_1 x_1 g_1 => ?_)
  obtain ⟨f1, D1 | ⟨h40, L1⟩⟩ := g_1
  · refine k_bd (x_countsD d (by omega) s_1 D1) (fun s_2 x_2 g_2 => ?_)
    rw [if_pos g_2.2.2.1]
    exact k_some (x_E.dead (z_F.tr (z_F.mono f1 rfl) (z_F.mono g_2.1 rfl)) g_2.2 ((x_old.of f1 rfl).tr (x_old.of g_2.1 rfl)))
  · refine k_bd (x_counts d (by omega) s_1 L1) (fun s_2 x_2 g_2 => ?_)
    obtain ⟨f2, D2 | ⟨hc, L2⟩⟩ := g_2
    · rw [if_pos D2.2.1]
      exact k_some (x_E.dead (z_F.tr (z_F.mono f1 rfl) (z_F.mono f2 rfl)) D2 ((x_old.of f1 rfl).tr (x_old.of f2 rfl)))
    · rw [if_neg (x_pos L2)]
      have f02 : z_F [40, 41, 42, 43, 44, 45, 46] [8, 9, 16, 18, 19] [] s s_2 := z_F.tr (z_F.mono f1 rfl) (z_F.mono f2 rfl)
      have o02 : x_old m s s_2 := (x_old.of f1 rfl).tr (x_old.of f2 rfl)
      refine k_bd (x_sign d (by omega) _ s_2 L2) (fun s_3 x_3 g_3 => ?_)
      obtain ⟨e3, -, g3⟩ := g_3
      have e3 := e3.symm
      subst e3
      refine k_if (fun _ => ?_) (fun hx => ?_)
      · refine k_bd (x_isType d (by omega) s_2 L2) (fun s_4 x_4 g_4 => ?_)
        obtain ⟨e4, -⟩ := g_4
        have e4 := e4.symm
        subst e4
        exact k_if (fun _ => x_leaf d (by omega) (by omega) 0 (Or.inl rfl) s s_2 f02 o02 L2 ha (Nat.le_refl _)) (fun _ => x_leaf d (by omega) (by omega) 1 (Or.inr rfl) s s_2 f02 o02 L2 ha (Nat.le_refl _))
      · have h8 := L2.2.2.2.2.1.1
        rw [h8, nI_1]
        have L3 := L2.adv (g3 hx)
        have f3 : z_F [] [8] [] s_2 (c_put s_2 34 8 (nI (a + 1))) := z_F.puf z_F.rf rfl
        refine k_bd (hE N M m (a + 1) (dd + 1) (c + 1) _ (by omega) (by omega) L3) (fun s_4 x_4 g_4 => ?_)
        obtain ⟨f4, g4⟩ := g_4
        have f04 := z_F.tr f02 (z_F.tr (z_F.mono f3 rfl) f4)
        rw [e_Rm_readP_46]
        rcases g4 with ⟨D4, oD⟩ | ⟨m', a', c', n, w, L4, rfl, n1, n2, a1, pot, ⟨hz, -, k, tr⟩, o4, cw⟩
        · rw [x_takeD d (by omega) _ s_4 D4, c_bd_some, if_neg (x_gt D4)]
          have f5 : z_F [] [18] [] s_4 (c_put s_4 34 18 (s_4.1 34 18 - 1)) := z_F.puf z_F.rf rfl
          exact k_some (x_E.dead (z_F.tr f04 (z_F.mono f5 rfl)) (D4.of f5 rfl) (o02.tr ((x_old.of f3 rfl).tr (oD.tr (x_old.of f5 rfl)))))
        · refine k_bd (x_take d (by omega) _ s_4 L4) (fun s_5 x_5 g_5 => ?_)
          obtain ⟨f5, D5 | ⟨a2, L5⟩⟩ := g_5
          · rw [if_neg (x_gt D5)]
            have f6 : z_F [] [18] [] s_5 (c_put s_5 34 18 (s_5.1 34 18 - 1)) := z_F.puf z_F.rf rfl
            exact k_some (x_E.dead (z_F.tr f04 (z_F.tr (z_F.mono f5 rfl) (z_F.mono f6 rfl))) (D5.of f6 rfl) (o02.tr ((x_old.of f3 rfl).tr (o4.tr ((x_old.of f5 rfl).tr (x_old.of f6 rfl))))))
          · have hm' : m' ≤ 110000 := by have := L4.2.2.2.2.1.2.2; have := L4.2.1.2.1; omega
            rw [if_pos L5.2.2.1, c_rg_nI (by omega) (by decide), nI_clamp (show n < 2 ^ 31 by omega)]
            have f6 : z_F [45] [] [] s_5 (c_put s_5 45 n (nI a)) := z_F.put z_F.rf rfl (by decide)
            have G6 : z_G (c_put s_5 45 n (nI a)) := ⟨L5.1.1.of (c_put_ne (by decide)), L5.1.2.1.of rfl rfl, L5.1.2.2.put5 (Or.inr ⟨a, by have := L2.2.1.1; omega, rfl⟩)⟩
            have L6 : x_L N M m' (a' + 1) (dd + 1) c' (c_put s_5 45 n (nI a)) := by
              obtain ⟨hG, h1, h2, h3, h4, h5, h6⟩ := L5
              exact ⟨G6, ⟨h1.1, h1.2.1, by rw [f6.1 36 rfl (by decide)]; exact h1.2.2⟩, by rw [f6.2.1 9 rfl]; exact h2, by rw [f6.2.1 16 rfl]; exact h3, ⟨by rw [f6.2.1 8 rfl]; exact h4.1, h4.2⟩, ⟨by rw [f6.2.1 18 rfl]; exact h5.1, h5.2⟩, ⟨by rw [f6.2.1 19 rfl]; exact h6.1, h6.2⟩⟩
            have e18 : s_5.1 34 18 = (c_put s_5 45 n (nI a)).1 34 18 := (f6.2.1 18 rfl).symm
            rw [e18]
            have L7 := L6.deep
            have f7 : z_F [] [18] [] (c_put s_5 45 n (nI a)) (c_put (c_put s_5 45 n (nI a)) 34 18 ((c_put s_5 45 n (nI a)).1 34 18 - 1)) := z_F.puf z_F.rf rfl
            have o7 : x_old m' s_4 (c_put (c_put s_5 45 n (nI a)) 34 18 ((c_put s_5 45 n (nI a)).1 34 18 - 1)) := (x_old.of f5 rfl).tr ((x_old.br (by have := L2.2.1.1; omega)).tr (x_old.of f7 rfl))
            refine k_some ⟨z_F.tr f04 (z_F.tr (z_F.mono f5 rfl) (z_F.tr (z_F.mono f6 rfl) (z_F.mono f7 rfl))), Or.inr ⟨m', a' + 1, c', n, w, L7, rfl, n1, n2, by omega, by omega, ⟨by omega, fun _ _ => by rw [c_put_off (by decide), c_put_same]; exact nI_pos (by have := L2.2.1.1; omega), k, x_T_up _ _ _ _ _ _ _ _ _ _ _ (Nat.le_refl _) (Nat.le_refl _) (Nat.le_refl _) (by omega) rfl (x_T_old o7 k _ _ w n n2 tr)⟩, (o02.tr ((x_old.of f3 rfl).tr o4)).tr (o7.le (by omega)), by omega⟩⟩
/-- the tree so far, while P are read behind one another -/
def x_A (N M g m0 a0 dd c0 m' a' c' n : Nat) (s0 s : c_S) : Prop := z_F [40, 41, 42, 43, 44, 45, 46] [8, 9, 16, 18, 19] [] s0 s ∧ x_L N M m' a' dd c' s ∧ m0 ≤ n ∧ n < m' ∧ a0 < a' ∧ m' + 2 * (N - a') + 1 ≤ m0 + 2 * (N - a0) ∧ x_old m0 s0 s ∧ (dd ≤ 39 ∧ x_hb s n) ∧ ∃ k w, x_T s m0 k g (37 - dd) w n ∧ c0 + w + 1 ≤ c'
/-- a node over two trees -/
theorem x_two {σ s1 s2 : c_S} {lo lo2 k1 k2 g g1 g2 h hh1 hh2 w w1 w2 n a b T1 : Nat} (hn : lo ≤ n) (hn2 : n < 120000) (ha : a < T1) (hab : a < n) (hb : b < n) (hT : T1 ≤ n) (hl : a + 1 ≤ lo2) (t1 : x_T s1 lo k1 g1 hh1 w1 a) (o1 : x_old T1 s1 σ) (t2 : x_T s2 lo2 k2 g2 hh2 w2 b) (o2 : x_old n s2 σ) (e1 : σ.1 41 n = nI a) (e2 : σ.1 42 n = nI b)
    (hk : ((σ.1 40 n = 4 ∨ σ.1 40 n = 5) ∧ g1 + 1 ≤ g ∧ g2 + 1 ≤ g ∧ hh1 + 1 ≤ h ∧ hh2 + 1 ≤ h ∧ w1 + w2 = w) ∨ (σ.1 40 n = 6 ∧ x_hb s1 a ∧ g1 ≤ g ∧ g2 + 1 ≤ g ∧ hh1 ≤ h ∧ hh2 ≤ h ∧ w1 + w2 + 1 = w)) : ∃ k, x_T σ lo k g h w n := by
  have t1' := x_T_old o1 k1 g1 hh1 w1 a ha t1
  have t2' := x_T_old o2 k2 g2 hh2 w2 b hb t2
  have l1 := x_T_lo t1'
  have l2 := x_T_lo t2'
  refine ⟨max k1 k2 + 1, by omega, hn2, Or.inr ?_⟩
  rcases hk with ⟨hk, h1, h2, h4, h5, h3⟩ | ⟨hk, hhb, h1, h2, h4, h5, h3⟩
  · exact Or.inl ⟨hk, a, b, g - 1, h - 1, w1, w2, by omega, by omega, by omega, e1, e2, hab, hb, x_T_up _ _ _ _ _ _ _ _ _ _ _ (by omega) (Nat.le_refl _) (by omega) (by omega) rfl t1', x_T_up _ _ _ _ _ _ _ _ _ _ _ (by omega) hl (by omega) (by omega) rfl t2'⟩
  · exact Or.inr ⟨hk, a, b, g - 1, w1, w2, by omega, by omega, e1, e2, hab, ⟨hb, hhb.old o1 ha⟩, x_T_up _ _ _ _ _ _ _ _ _ _ _ (by omega) (Nat.le_refl _) (by omega) (by omega) rfl t1', x_T_up _ _ _ _ _ _ _ _ _ _ _ (by omega) hl (by omega) (by omega) rfl t2'⟩
set_option maxHeartbeats 1000000 in
theorem x_readA10 (f d : Nat) (hE : x_HE f d) (hE2 : x_HE f (d + 1)) (hd : 4 ≤ d) (N M m0 a0 dd c0 p0 : Nat) (hp0 : p0 < 4002) (s0 : c_S) (hf : 41 ≤ dd + f) (hdd : dd ≤ 40) : ∀ (t m' a' c' n : Nat) (s : c_S), N < a' + t → x_A N M (2 * f + 1) m0 a0 dd c0 m' a' c' n s0 s → k_ok (b_Rm_readA_10 (c_M (d + 1)) (nI p0) (nI n) s) (x_E N M (2 * f + 2) (39 - dd) 39 0 m0 a0 dd c0 s0) := by
  intro t
  induction t with
  | zero => intro m' a' c' n s ht A; have := A.2.1.2.2.2.2.1.2.1; omega
  | succ t ih =>
    intro m' a' c' n s ht A
    obtain ⟨f0, L, n1, n2, a1, pot, o0, ⟨hz, hhb⟩, k, w, tr, cw⟩ := id A
    obtain ⟨hG, h1, h2, h3, h4, h5, h6⟩ := id L
    rw [e_Rm_readA_10]
    refine k_bd (x_isP (d + 1) (by omega) s L) (fun s_1 x_1 g_1 => ?_)
    obtain ⟨e1, -, g1⟩ := g_1
    have e1 := e1.symm
    subst e1
    refine k_if (fun _ => ?_) (fun hx => ?_)
    · refine k_bd (x_sign (d + 1) (by omega) _ s L) (fun s_2 x_2 g_2 => ?_)
      obtain ⟨e2, -, g2⟩ := g_2
      have e2 := e2.symm
      subst e2
      refine k_if (fun _ => ?_) (fun hx2 => ?_)
      · exact k_some ⟨f0, Or.inr ⟨m', a', c', n, w, L, rfl, n1, n2, a1, pot, ⟨hz, fun h => absurd h (by decide), k, x_T_up _ _ _ _ _ _ _ _ _ _ _ (Nat.le_refl _) (Nat.le_refl _) (by omega) (by omega) rfl tr⟩, o0, by omega⟩⟩
      · have haN := g2 hx2
        refine k_bd (x_counts (d + 1) (by omega) s L) (fun s_3 x_3 g_3 => ?_)
        obtain ⟨f3, D3 | ⟨hc3, L3⟩⟩ := g_3
        · rw [if_pos D3.2.1]
          exact k_some (x_E.dead (z_F.tr f0 (z_F.mono f3 rfl)) D3 (o0.tr (x_old.of f3 rfl)))
        · rw [if_neg (x_pos L3), h4.1, L3.2.2.2.2.1.1, nI_1]
          have L4 := L3.adv haN
          have f4 : z_F [] [8] [] s_3 (c_put s_3 34 8 (nI (a' + 1))) := z_F.puf z_F.rf rfl
          rw [e_Rm_readA_87]
          refine k_bd (hE2 N M m' (a' + 1) dd (c' + 1) _ hf hdd L4) (fun s_5 x_5 g_5 => ?_)
          obtain ⟨f5, g5⟩ := g_5
          have f05 := z_F.tr f0 (z_F.tr (z_F.mono f3 rfl) (z_F.tr (z_F.mono f4 rfl) f5))
          rcases g5 with ⟨D5, oD⟩ | ⟨m2, a2, c2, b, w2, L5, rfl, b1, b2, a3, pot2, ⟨hz2, -, k2, tr2⟩, o5, cw2⟩
          · rw [if_pos D5.2.1]
            exact k_some (x_E.dead f05 D5 (o0.tr ((x_old.of f3 rfl).tr ((x_old.of f4 rfl).tr (oD.le (by omega))))))
          · rw [if_neg (x_pos L5)]
            have hm2 : m2 ≤ 110000 := by have := L5.2.2.2.2.1.2.2; have := L5.2.1.2.1; omega
            refine k_bd (x_node (d + 1) (by omega) m2 (by omega) 5 (nI n) (nI b) p0 a' hp0 (by omega) s_5 L5.1 L5.2.2.2.1) (fun s_6 x_6 g_6 => ?_)
            obtain ⟨rfl, N6⟩ := g_6
            have L6 := N6.live L5 (by have := L5.2.2.2.2.1.2.2; omega)
            obtain ⟨f6, G6, e16, o6, k61, k62, k63⟩ := N6
            rw [c_rg_nI (by omega) (by decide), nI_clamp (show m2 < 2 ^ 31 by omega)]
            have f7 : z_F [46] [] [] s_6 (c_put s_6 46 m2 (-1)) := z_F.put z_F.rf rfl (by decide)
            have L7 : x_L N M (m2 + 1) a2 dd c2 (c_put s_6 46 m2 (-1)) := by
              obtain ⟨hG, h1, h2, h3, h4, h5, h6⟩ := L6
              exact ⟨⟨hG.1.of (c_put_ne (by decide)), hG.2.1.of rfl rfl, hG.2.2.put6 (Or.inl rfl)⟩, ⟨h1.1, h1.2.1, by rw [f7.1 36 rfl (by decide)]; exact h1.2.2⟩, by rw [f7.2.1 9 rfl]; exact h2, by rw [f7.2.1 16 rfl]; exact h3, ⟨by rw [f7.2.1 8 rfl]; exact h4.1, h4.2⟩, ⟨by rw [f7.2.1 18 rfl]; exact h5.1, h5.2⟩, ⟨by rw [f7.2.1 19 rfl]; exact h6.1, h6.2⟩⟩
            have o67 : x_old m2 s_5 (c_put s_6 46 m2 (-1)) := o6.tr (x_old.of f7 rfl)
            have o35 : x_old m' s s_5 := (x_old.of f3 rfl).tr ((x_old.of f4 rfl).tr o5)
            refine k_some ⟨z_F.tr f05 (z_F.tr (z_F.mono f6 rfl) (z_F.mono f7 rfl)), Or.inr ⟨m2 + 1, a2, c2, m2, w + w2, L7, rfl, by omega, by omega, by omega, by omega, ⟨hz, fun h => absurd h (by decide), ?_⟩, (o0.tr (o35.le (by omega))).tr (o67.le (by omega)), by omega⟩⟩
            refine x_two (T1 := m') (s1 := s) (s2 := s_5) (lo2 := m') (by omega) (by omega) n2 (by omega) b2 (by omega) (by omega) tr (o35.tr (o67.le (by omega))) tr2 o67 ?_ ?_ (Or.inl ⟨Or.inr ?_, Nat.le_refl _, by omega, by omega, by omega, rfl⟩)
            · rw [f7.1 41 rfl (by decide)]; exact k62
            · rw [f7.1 42 rfl (by decide)]; exact k63
            · rw [f7.1 40 rfl (by decide)]; exact k61
    · have haN := g1 hx
      refine k_bd (x_readP f d hE hd N M m' a' dd c' s (by omega) hdd L haN) (fun s_2 x_2 g_2 => ?_)
      obtain ⟨f2, g2⟩ := g_2
      rcases g2 with ⟨D2, oD⟩ | ⟨m2, a2, c2, b, w2, L2, rfl, b1, b2, a3, pot2, ⟨hz2, -, k2, tr2⟩, o2, cw2⟩
      · rw [if_neg (x_gt D2), x_readA10D (d + 1) (by omega) _ _ s_2 D2]
        exact k_some (x_E.dead (z_F.tr f0 f2) D2 (o0.tr (oD.le (by omega))))
      · rw [if_pos L2.2.2.1, h4.1]
        have hm2 : m2 ≤ 110000 := by have := L2.2.2.2.2.1.2.2; have := L2.2.1.2.1; omega
        refine k_bd (x_node (d + 1) (by omega) m2 (by omega) 6 (nI n) (nI b) p0 a' hp0 (by omega) s_2 L2.1 L2.2.2.2.1) (fun s_3 x_3 g_3 => ?_)
        obtain ⟨rfl, N3⟩ := g_3
        have hpM := h4.2.2
        have L3 := N3.live L2 (by omega)
        obtain ⟨f3, G3, e16, o3, k31, k32, k33⟩ := N3
        refine ih (m2 + 1) a2 c2 m2 s_3 (by omega) ⟨z_F.tr f0 (z_F.tr f2 (z_F.mono f3 rfl)), L3, by omega, by omega, by omega, by omega, (o0.tr (o2.le (by omega))).tr (o3.le (by omega)), ⟨hz, x_hb_6 k31⟩, ?_⟩
        obtain ⟨kk, tt⟩ := x_two (σ := s_3) (g := 2 * f + 1) (h := 37 - dd) (w := w + w2 + 1) (T1 := m') (s1 := s) (s2 := s_2) (lo := m0) (lo2 := m') (n := m2) (by omega) (by omega) n2 (by omega) b2 (by omega) (by omega) tr (o2.tr (o3.le (by omega))) tr2 o3 k32 k33 (Or.inr ⟨k31, hhb, Nat.le_refl _, Nat.le_refl _, Nat.le_refl _, Nat.le_refl _, rfl⟩)
        exact ⟨kk, w + w2 + 1, tt, by omega⟩
