def rr_c (C L W t S : Nat) (s : c_S) : Prop := (s.1 34 30 = nI C ∧ s.1 34 33 = nI L ∧ s.1 34 36 = 0 ∧ s.1 34 40 = nI W ∧ W ≤ t) ∧ (s.1 34 42 = nI t ∧ t ≤ 20000) ∧ (s.1 34 41 = nI S ∧ S ≤ 60000) ∧ (s.1 34 54 = -1 ∧ s.1 34 55 = 0)
theorem rr_c.fld {C L W t S : Nat} {s σ : c_S} {A Y X : List Nat} (h : rr_c C L W t S s) (f : z_F A Y X s σ) (hY : (!(c_has Y 30) && !(c_has Y 33) && !(c_has Y 36) && !(c_has Y 40) && !(c_has Y 42) && !(c_has Y 41) && !(c_has Y 54) && !(c_has Y 55)) = true) : rr_c C L W t S σ := by
  simp only [Bool.and_eq_true, Bool.not_eq_true'] at hY
  obtain ⟨⟨⟨⟨⟨⟨⟨y1, y2⟩, y3⟩, y4⟩, y5⟩, y6⟩, y7⟩, y8⟩ := hY
  obtain ⟨⟨h1, h2, h3, h4, h5⟩, ⟨h6, h7⟩, ⟨h8, h9⟩, h10, h11⟩ := h
  exact ⟨⟨by rw [f.2.1 30 y1]; exact h1, by rw [f.2.1 33 y2]; exact h2, by rw [f.2.1 36 y3]; exact h3, by rw [f.2.1 40 y4]; exact h4, h5⟩, ⟨by rw [f.2.1 42 y5]; exact h6, h7⟩, ⟨by rw [f.2.1 41 y6]; exact h8, h9⟩, by rw [f.2.1 54 y7]; exact h10, by rw [f.2.1 55 y8]; exact h11⟩
theorem h_ex.Z {lo n C L W T R b : Nat} {s σ : c_S} (x : h_ex lo n C L W T R b s σ) : rr_Z s σ := z_F.mono x.1.1 rfl
theorem h_ex.Yy {lo n C L W T R b : Nat} {s σ : c_S} (x : h_ex lo n C L W T R b s σ) : rr_Y s σ := rr_Y.of x.1.1 rfl
theorem rr_W.ck {κ : Nat → Std.Format} {nc m lo n C L W T R b : Nat} {s σ : c_S} (h : rr_W κ nc m s) (x : h_ex lo n C L W T R b s σ) (hS : ∃ S, S ≤ 60000 ∧ σ.1 34 41 = nI S) : rr_W κ nc m σ := h.mv x.Z (x.1.2.1.1.o h.1.2.1) (h.2.2.1.of x.1.1 rfl) hS
theorem rr_E.ck {κ : Nat → Std.Format} {nc m M lo n C L W T R b : Nat} {s σ : c_S} (h : rr_W κ nc m s) (e : s.1 52 nc = nI m) (x : h_ex lo n C L W T R b s σ) (D : h_D M σ) : rr_E κ nc m M σ := ⟨D.1, h.ck x D.2.1, by rw [x.1.1.1 52 rfl (by decide)]; exact e⟩
theorem rr_220 (d : Nat) {κ : Nat → Std.Format} {nc m M N a a3 m3 ia y ky C L W t S : Nat} {τ : Std.Format} (i3 : Int32) (s0 s : c_S) (Y : rr_Y s0 s) (hL : rr_L N M m3 a3 s) (hW : rr_W κ nc m s) (e52 : s.1 52 nc = nI m) (hnc : nc < 100) (hm : m ≤ m3) (hia : ia < 4002) (ha : a < a3) (hF : o_F s κ nc ky 38 [] y τ) (hy : y < m3) (hM : i3 = -1 ∨ ∃ n2 k2, i3 = nI n2 ∧ n2 < m3 ∧ o_T s κ nc k2 38 [] n2 τ) (hc : rr_c C L W t S s) (bC : C + 42 * (N - a3) ≤ 168000) (bL : L + 42 * (N - a3) ≤ 168000) : k_ok (b_Rm_declaration_220 (c_M d) (nI ia) (nI y) i3 s) (fun σ _ => rr_P M N a s0 σ) := by
  obtain ⟨w1, w2, w3, w4, w5, w6⟩ := id hW
  have hm3 : m3 ≤ 110000 := by have := hL.2.1; have := hL.2.2.2.2; omega
  rw [e_Rm_declaration_220, if_neg (by rw [hL.2.2.1]; decide), c_rg_nI hia (by decide), w2, c_rg_nI (by omega) (by decide), c_rg_nI hia (by decide), c_rg_nI (by omega) (by decide), c_rg_nI (by omega) (by decide), c_rg_nI (by omega) (by decide), nI_clamp (show nc < 2 ^ 31 by omega), nI_clamp (show ia < 2 ^ 31 by omega)]
  have F1 : z_F [50, 51] [] [47, 48] s (c_put (c_put (c_putL (c_putL s 47 nc (s.2 38 ia)) 48 nc (s.2 39 ia)) 50 nc (nI y)) 51 nc i3) := z_F.put (z_F.put (z_F.putL (z_F.putL z_F.rf rfl) rfl) rfl (by decide)) rfl (by decide)
  have p47 : ∀ c, (c_put (c_put (c_putL (c_putL s 47 nc (s.2 38 ia)) 48 nc (s.2 39 ia)) 50 nc (nI y)) 51 nc i3).2 47 c = if c = nc then s.2 38 ia else s.2 47 c := fun c => by rw [c_put_2, c_put_2, c_putL_off (by decide), c_putL_get]
  have p48 : ∀ c, (c_put (c_put (c_putL (c_putL s 47 nc (s.2 38 ia)) 48 nc (s.2 39 ia)) 50 nc (nI y)) 51 nc i3).2 48 c = if c = nc then s.2 39 ia else s.2 48 c := fun c => by rw [c_put_2, c_put_2, c_putL_get, c_putL_off (by decide)]
  have p50 : ∀ c, (c_put (c_put (c_putL (c_putL s 47 nc (s.2 38 ia)) 48 nc (s.2 39 ia)) 50 nc (nI y)) 51 nc i3).1 50 c = if c = nc then nI y else s.1 50 c := fun c => by rw [c_put_off (by decide), c_put_get, c_putL_1, c_putL_1]
  have p51 : ∀ c, (c_put (c_put (c_putL (c_putL s 47 nc (s.2 38 ia)) 48 nc (s.2 39 ia)) 50 nc (nI y)) 51 nc i3).1 51 c = if c = nc then i3 else s.1 51 c := fun c => by rw [c_put_get, c_put_off (by decide), c_putL_1, c_putL_1]
  generalize c_put (c_put (c_putL (c_putL s 47 nc (s.2 38 ia)) 48 nc (s.2 39 ia)) 50 nc (nI y)) 51 nc i3 = s1 at F1 p47 p48 p50 p51 ⊢
  have o1 : o_ag s s1 := o_ag.of F1 rfl
  obtain ⟨v, ev, hv⟩ := rr_294 d nc (by omega) s1 (by rw [F1.2.1 21 rfl]; exact w2) ky 38 [] y τ (o_F_ag o1 ky 38 [] y τ hF)
  rw [ev]
  have F2 : z_F [49] [21] [] s1 (c_put (c_put s1 49 nc v) 34 21 (nI (nc + 1))) := z_F.puf (z_F.put z_F.rf rfl (by decide)) rfl
  have p49 : ∀ c, (c_put (c_put s1 49 nc v) 34 21 (nI (nc + 1))).1 49 c = if c = nc then v else s.1 49 c := fun c => by rw [c_put_off (by decide), c_put_get, F1.1 49 rfl (by decide)]
  have p21 : (c_put (c_put s1 49 nc v) 34 21 (nI (nc + 1))).1 34 21 = nI (nc + 1) := c_put_same
  generalize c_put (c_put s1 49 nc v) 34 21 (nI (nc + 1)) = s2 at F2 p49 p21 ⊢
  have F : z_F [49, 50, 51] [21] [47, 48] s s2 := z_F.tr (z_F.mono F1 rfl) (z_F.mono F2 rfl)
  have hG : z_G s2 := by
    refine ⟨w3.1.of (F.1 37 rfl (by decide)), w3.2.1.of (F.2.2 38 rfl) (F.2.2 39 rfl), fun i => ?_⟩
    rw [F.1 43 rfl (by decide), F.1 44 rfl (by decide), F.1 45 rfl (by decide), F.1 46 rfl (by decide)]
    exact w3.2.2 i
  have zf := w3.2.1 ia hia
  have hK2 := rr_new w1 hnc hm (by omega) (F.o rfl : o_old m3 s s2) hy hF i3 hM (F.1 52 rfl (by decide)) e52 (fun c hc => by rw [p49, if_neg (by omega)]) (by rw [p49, if_pos rfl]; exact hv) (fun c hc => by rw [F2.1 50 rfl (by decide), p50, if_neg (by omega)]) (by rw [F2.1 50 rfl (by decide), p50, if_pos rfl]) (fun c hc => by rw [F2.1 51 rfl (by decide), p51, if_neg (by omega)]) (by rw [F2.1 51 rfl (by decide), p51, if_pos rfl]) (fun c hc => by rw [F2.2.2 47 rfl, p47, if_neg (by omega)]) (fun c hc => by rw [F2.2.2 48 rfl, p48, if_neg (by omega)]) (by rw [F2.2.2 47 rfl, p47, if_pos rfl]; exact zf.1) (by rw [F2.2.2 48 rfl, p48, if_pos rfl]; exact zf.2)
  obtain ⟨l1, l2, l3, l4, l5⟩ := hL
  obtain ⟨c1, c2, c3, c4⟩ := hc.fld F rfl
  exact k_some ⟨Y.tr (rr_Y.of F rfl), Or.inr ⟨_, nc + 1, m3, a3, C, L, W, t, S, ha, ⟨hG, ⟨l2.1, l2.2.1, by rw [F.1 36 rfl (by decide)]; exact l2.2.2⟩, by rw [F.2.1 9 rfl]; exact l3, by rw [F.2.1 16 rfl]; exact l4, by rw [F.2.1 8 rfl]; exact l5⟩, ⟨hK2, p21, hG, w4.of (F.1 35 rfl (by decide)), by rw [F.2.1 41 rfl]; exact w5, by rw [F.2.1 70 rfl]; exact w6⟩, c1, c2, c3, c4, bC, bL⟩⟩
theorem h_S.c {κ : Nat → Std.Format} {nc M C L W t S T R : Nat} {s : c_S} (h : h_S κ nc M C L W t S T R [] s) (e54 : s.1 34 54 = -1) : rr_c C L W t S s :=
  ⟨h.2.1, h.2.2.1, h.2.2.2.1, e54, h.2.2.2.2.2.2.2.1⟩
theorem rr_L.ck {N M m a lo n C L W T R b : Nat} {s σ : c_S} (h : rr_L N M m a s) (x : h_ex lo n C L W T R b s σ) (e9 : σ.1 34 9 = 0) : rr_L N M m a σ := by
  obtain ⟨hG, h1, h2, h3, h4⟩ := h
  exact ⟨hG.of x.1.1 rfl, ⟨h1.1, h1.2.1, by rw [x.1.1.1 36 rfl (by decide)]; exact h1.2.2⟩, e9, by rw [x.1.1.2.1 16 rfl]; exact h3, by rw [x.1.1.2.1 8 rfl]; exact h4⟩
