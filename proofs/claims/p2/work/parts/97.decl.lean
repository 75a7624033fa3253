theorem rr_W.rd {κ : Nat → Std.Format} {nc m : Nat} {s σ : c_S} (h : rr_W κ nc m s) (f : z_F [40, 41, 42, 43, 44, 45, 46] [8, 9, 16, 18, 19] [] s σ) (ho : o_old m s σ) (hG : z_G σ) : rr_W κ nc m σ := h.mv (z_F.mono f rfl) ho hG (by rw [f.2.1 41 rfl]; exact h.2.2.2.2.1)
set_option maxHeartbeats 1000000 in
theorem rr_104 (d : Nat) (hd : 760 ≤ d) {κ : Nat → Std.Format} {nc m m1 M N a a1 ia y w1 k1 C L W t S : Nat} (s0 s : c_S) (Y : rr_Y s0 s) (hL : rr_L N M m1 a1 s) (hW : rr_W κ nc m s) (e52 : s.1 52 nc = nI m) (hnc : nc < 100) (hia : ia < 4002) (ha : a < a1) (hy : y < m1) (ty : x_T s m k1 82 38 w1 y) (hw1 : w1 ≤ 600) (hm1 : m1 + 2 * (N - a1) ≤ m + 2 * (N - a)) (hc : rr_c C L W t S s) (bC : C + 42 * (N - a) ≤ 168000) (bL : L + 42 * (N - a) ≤ 168000) : k_ok (b_Rm_declaration_104 (c_M d) (nI ia) (nI y) (-1) (s.1 34 8) s) (fun σ _ => rr_P M N a s0 σ) := by
  have ly := x_T_lo ty
  have hmM : m ≤ M := by have := hL.2.2.2.2; omega
  have hN := hL.2.1
  rw [e_Rm_declaration_104]
  refine k_bd (rr_sign d (by omega) _ s hL) (fun s1 x1 g1 => ?_)
  obtain ⟨e1, -, g1⟩ := g1
  have e1 := e1.symm
  subst e1
  refine k_if (fun hx => ?_) (fun hx => ?_)
  · rw [hL.2.2.2.2.1]
    exact rr_138 d hd (-1) x1 s0 s Y hL hW e52 hnc hia (by have := hL.2.2.2.2; omega) ha hy (Nat.le_refl _) ty hw1 hm1 (Or.inl ⟨hx, rfl⟩) hc bC bL
  have haN := g1 hx
  have L2 := hL.adv haN
  have f2 : z_F [] [8] [] s (c_put s 34 8 (nI (a1 + 1))) := z_F.puf z_F.rf rfl
  rw [hL.2.2.2.2.1, nI_1]
  have W2 := hW.fld f2 rfl
  have c2 := hc.fld f2 rfl
  have Y2 := Y.tr (rr_Y.of f2 rfl)
  have e522 : (c_put s 34 8 (nI (a1 + 1))).1 52 nc = nI m := by rw [f2.1 52 rfl (by decide)]; exact e52
  have ty2 : x_T (c_put s 34 8 (nI (a1 + 1))) m k1 82 38 w1 y := x_T_old (x_old.of f2 rfl (T := y + 1)) k1 82 38 w1 y (by omega) ty
  generalize c_put s 34 8 (nI (a1 + 1)) = s2 at L2 f2 W2 c2 Y2 e522 ty2 ⊢
  refine k_bd (rr_rw d (by omega) s2 L2) (fun s3 x3 g3 => ?_)
  obtain ⟨f3, o3, g3⟩ := g3
  have Y3 := Y2.tr (rr_Y.of f3 rfl)
  have e523 : s3.1 52 nc = nI m := by rw [f3.1 52 rfl (by decide)]; exact e522
  rcases g3 with D3 | ⟨m3, a3, n2, w2, k2, L3, rfl, hn2, a13, pot, t2, hw2⟩
  · exact rr_138D d (by omega) hmM _ _ _ _ _ s0 s3 Y3 ⟨D3, W2.rd f3 ((o3.o).le (by omega)) D3.1, e523⟩
  · have W3 := W2.rd f3 ((o3.o).le (by omega)) L3.1
    exact rr_138 d hd (nI n2) x1 s0 s3 Y3 L3 W3 e523 hnc hia (by omega) (by omega) hy (by have := x_T_lo t2; omega) (x_T_old (o3.le (by omega) : x_old (y + 1) s2 s3) k1 82 38 w1 y (by omega) ty2) hw1 (by omega) (Or.inr ⟨hx, n2, k2, w2, rfl, hn2, hw2, t2⟩) (c2.fld f3 rfl) bC bL
set_option maxHeartbeats 1000000 in
theorem rr_62 (d : Nat) (hd : 760 ≤ d) {κ : Nat → Std.Format} {nc m M N a C L W t S : Nat} (s : c_S) (hL : rr_L N M m a s) (hW : rr_W κ nc m s) (hnc : nc < 100) (haN : a < N) (hc : rr_c C L W t S s) (bC : C + 42 * (N - a) ≤ 168000) (bL : L + 42 * (N - a) ≤ 168000) : k_ok (b_Rm_declaration_62 (c_M d) (nI a) s) (fun σ _ => rr_P M N a s σ) := by
  have hmM : m ≤ M := by have := hL.2.2.2.2; omega
  have hN := hL.2.1
  have L1 := hL.adv haN
  have f1 : z_F [] [8] [] s (c_put s 34 8 (nI (a + 1))) := z_F.puf z_F.rf rfl
  rw [e_Rm_declaration_62, hL.2.2.2.2.1, nI_1]
  have W1 := hW.fld f1 rfl
  have c1 := hc.fld f1 rfl
  generalize c_put s 34 8 (nI (a + 1)) = s1 at L1 f1 W1 c1 ⊢
  refine k_bd (rr_take d (by omega) _ s1 L1) (fun s2 x2 g2 => ?_)
  obtain ⟨f2, g2⟩ := g2
  have W2 := W1.fld f2 rfl
  have c2 := c1.fld f2 rfl
  have Y2 : rr_Y s s2 := (rr_Y.of f1 rfl).tr (rr_Y.of f2 rfl)
  have e16 : s2.1 34 16 = nI m := by rw [f2.2.1 16 rfl]; exact L1.2.2.2.1
  rw [W2.2.1, c_rg_nI (by omega) (by decide), nI_clamp (show nc < 2 ^ 31 by omega), e16]
  have f3 : z_F [52] [] [] s2 (c_put s2 52 nc (nI m)) := z_F.put z_F.rf rfl (by decide)
  have W3 : rr_W κ nc m (c_put s2 52 nc (nI m)) := rr_put52 W2
  have c3 := c2.fld f3 rfl
  have e52 : (c_put s2 52 nc (nI m)).1 52 nc = nI m := c_put_same
  have Y3 := Y2.tr (rr_Y.of f3 rfl)
  rcases g2 with D2 | ⟨a1N, L2⟩
  · have D3 : x_D M (c_put s2 52 nc (nI m)) := D2.of2 f3 rfl rfl
    obtain ⟨σ, es, f4, D4⟩ := rr_rwD d (by omega) _ D3
    rw [es, c_bd_some]
    exact rr_104D d (by omega) hmM _ _ _ _ s σ (Y3.tr (rr_Y.of f4 rfl)) (rr_E.fld ⟨D3, W3, e52⟩ f4 rfl rfl)
  have L3 : rr_L N M m (a + 1 + 1) (c_put s2 52 nc (nI m)) := L2.fld f3 rfl rfl rfl
  generalize c_put s2 52 nc (nI m) = s3 at f3 W3 c3 e52 Y3 L3 ⊢
  refine k_bd (rr_rw d (by omega) s3 L3) (fun s4 x4 g4 => ?_)
  obtain ⟨f4, o4, g4⟩ := g4
  have e524 : s4.1 52 nc = nI m := by rw [f4.1 52 rfl (by decide)]; exact e52
  have Y4 := Y3.tr (rr_Y.of f4 rfl)
  rcases g4 with D4 | ⟨m1, a1, y, w1, k1, L4, rfl, hy, a13, pot, ty, hw1⟩
  · exact rr_104D d (by omega) hmM _ _ _ _ s s4 Y4 ⟨D4, W3.rd f4 o4.o D4.1, e524⟩
  · exact rr_104 d hd s s4 Y4 L4 (W3.rd f4 o4.o L4.1) e524 hnc (by omega) (by omega) hy ty hw1 (by omega) (c3.fld f4 rfl) bC bL
theorem rr_Y.pre {M N a : Nat} {s t σ : c_S} (h : rr_Y s t) (g : rr_P M N a t σ) : rr_P M N a s σ := ⟨h.tr g.1, g.2⟩
set_option maxHeartbeats 1000000 in
theorem rr_decl (d : Nat) (hd : 760 ≤ d) {κ : Nat → Std.Format} {nc M N m a C L W t S : Nat} (s : c_S) (h : rr_S κ nc M N m a C L W t S s) : k_ok (c_M (d + 1) 77 [v_r 34] s) (fun σ _ => rr_P M N a s σ) := by
  obtain ⟨hL, hW, h1, h2, h3, h4, bC, bL⟩ := h
  have hc : rr_c C L W t S s := ⟨h1, h2, h3, h4⟩
  have hmM : m ≤ M := by have := hL.2.2.2.2; omega
  have hN := hL.2.1
  have hnc := hW.1.1
  rw [m_Rm_declaration, e_Rm_declaration_0]
  have ha4 : a < 4002 := by have := hL.2.2.2.2; omega
  have bad : ∀ k : Int32, (1 ≤ k.toInt ∧ k.toInt ≤ 11) → k_ok (c_bd (c_M d 25 [v_r 34, v_i k, v_i (nI a)] s) fun s2 _ => b_Rm_declaration_62 (c_M d) (nI a) s2) (fun σ _ => rr_P M N a s σ) := fun k hk => by
    refine k_bd (rr_wrongL d (by omega) k hk s hL) (fun s2 x2 g2 => ?_)
    exact rr_62D d (by omega) hmM _ s s2 (rr_Y.of g2.1 rfl) g2.2 (hW.fld g2.1 rfl) (by rw [g2.1.2.1 16 rfl]; exact hL.2.2.2.1)
  refine k_bd (rr_isName d (by omega) s hL) (fun s1 x1 g1 => ?_)
  obtain ⟨e1, -, g1⟩ := g1
  have e1 := e1.symm
  subst e1
  rw [hL.2.2.2.2.1]
  refine k_if (fun _ => bad 1 (by decide)) (fun hx => ?_)
  obtain ⟨r, er, hr⟩ := h_const d (by omega) a nc ha4 hnc s hW.2.1
  rw [er, c_bd_some, hW.2.1]
  refine k_if (fun _ => k_if (fun _ => ?_) (fun h100 => ?_)) (fun _ => ?_)
  · rw [hL.2.2.2.2.1]; exact bad 5 (by decide)
  · have : nc ≠ 100 := fun e => h100 (by rw [e]; rfl)
    exact rr_62 d hd s hL hW (by omega) (g1 hx) hc bC bL
  · rw [hL.2.2.2.2.1]; exact bad 3 (by decide)
/-- declaration after declaration -/
theorem rr_decls (d : Nat) (hd : 761 ≤ d) (M N : Nat) : ∀ (n a : Nat) (s : c_S), N < a + n → (0 < s.1 34 9 ∧ (∃ κ nc m, m ≤ M ∧ rr_W κ nc m s ∧ s.1 34 16 = nI m) ∨ ∃ κ nc m C L W t S, rr_S κ nc M N m a C L W t S s) → k_ok (b_Rm_declare_9 (c_M d) s) (fun σ _ => rr_Y s σ ∧ ∃ κ nc m, m ≤ M ∧ rr_W κ nc m σ ∧ σ.1 34 16 = nI m)
  | n, a, s, hn, Or.inl ⟨h9, hW⟩ => by
    rw [e_Rm_declare_9, if_neg (x_ne0 h9)]
    exact k_some ⟨rr_Y.rf, hW⟩
  | 0, a, s, hn, Or.inr ⟨κ, nc, m, C, L, W, t, S, h⟩ => by
    have := h.1.2.2.2.2
    omega
  | n + 1, a, s, hn, Or.inr ⟨κ, nc, m, C, L, W, t, S, h⟩ => by
    have hL := h.1
    have hN := hL.2.1
    have ha := hL.2.2.2.2
    obtain ⟨d, rfl⟩ : ∃ e, d = e + 1 := ⟨d - 1, by omega⟩
    rw [e_Rm_declare_9, if_pos hL.2.2.1, ha.1, c_rg_nI (by omega) (by decide), nI_clamp (show a < 2 ^ 31 by omega)]
    refine k_if (fun _ => k_some ⟨rr_Y.rf, κ, nc, m, by omega, h.2.1, hL.2.2.2.1⟩) (fun _ => ?_)
    refine k_bd (rr_decl d (by omega) s h) (fun s1 x1 g1 => ?_)
    obtain ⟨Y1, g1⟩ := g1
    rcases g1 with g1 | ⟨κ', nc', m', a', C', L', W', t', S', ha', h'⟩
    · exact k_mono (rr_decls (d + 1) hd M N n (N + 1) s1 (by omega) (Or.inl g1)) (fun σ r g => ⟨Y1.tr g.1, g.2⟩)
    · exact k_mono (rr_decls (d + 1) hd M N n a' s1 (by omega) (Or.inr ⟨κ', nc', m', C', L', W', t', S', h'⟩)) (fun σ r g => ⟨Y1.tr g.1, g.2⟩)
