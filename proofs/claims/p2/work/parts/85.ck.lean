theorem h_S.sh {κ : Nat → Std.Format} {nc M C L W t S T R z : Nat} {Γ : List Std.Format} {τ : Std.Format} {s σ : c_S} {r : Int32} (h : h_S κ nc M C L W t S T R Γ s) (g : w_sP κ nc C L W z τ s σ r) : ∃ C' L', h_S κ nc M C' L' W t S T R Γ σ ∧ (∀ lo n, h_ex lo n C L W T R Γ.length s σ) ∧ C ≤ C' ∧ L ≤ L' ∧ z_F [53, 54, 55, 56, 62, 63] [30, 33, 43, 44, 45, 46, 47, 48] [] s σ ∧ w_sh κ nc C' L' W (C + z) (L + z) τ σ r := by
  obtain ⟨⟨a1, a2, m, a3, a4⟩, ⟨b1, b2, b3, b4, b5⟩, c, d, ⟨e1, e2⟩, f1, -, -⟩ := id h
  obtain ⟨f, ag, g3, C', L', g4, g5, g6, g7, g10⟩ := g
  have X : ∀ lo n, h_ex lo n C L W T R Γ.length s σ := fun lo n => ⟨⟨z_F.mono f rfl, ag, fun i _ _ => by rw [f.1 40 rfl (by decide), f.1 41 rfl (by decide), f.1 42 rfl (by decide)]; exact ⟨rfl, rfl, rfl⟩, fun i _ => by rw [f.1 64 rfl (by decide), f.1 65 rfl (by decide)]; exact ⟨rfl, rfl⟩, fun i _ => by rw [f.1 66 rfl (by decide)]⟩, f.2.1 54 rfl, f.2.1 55 rfl⟩
  exact ⟨C', L', h.to (X 0 0) g6 g7 (Nat.le_refl _) b5 (by rw [f.2.1 9 rfl]; exact a2) g4 g5 (by rw [f.2.1 36 rfl]; exact b3) (by rw [f.2.1 40 rfl]; exact b4) (by rw [f.2.1 42 rfl]; exact c.1) c.2 (by rw [f.2.1 41 rfl]; exact d.1) d.2 (by rw [f.2.1 17 rfl]; exact e1) e2 (by rw [f.2.1 59 rfl]; exact f1), X, g6, g7, f, g10⟩
/-- a closure of an object, and a list with it -/
theorem h_cl (d : Nat) (hd : 1 ≤ d) (C L T R b : Nat) (n l l' : Int32) (s : c_S) (hC : C < 400000) (hL : L < 400000) (e30 : s.1 34 30 = nI C) (e33 : s.1 34 33 = nI L) : ∃ s1 s2, c_M d 41 [v_r 34, v_i n, v_i l] s = some (s1, nI C) ∧ c_M d 42 [v_r 34, v_i (nI C), v_i l'] s1 = some (s2, nI L) ∧ z_F [53, 54, 55, 56] [30, 33] [] s s2 ∧ (∀ lo n W, h_ex lo n C L W T R b s s2) ∧ s2.1 34 30 = nI (C + 1) ∧ s2.1 34 33 = nI (L + 1) ∧ s2.1 53 C = n ∧ s2.1 54 C = l ∧ s2.1 55 L = nI C ∧ s2.1 56 L = l' := by
  obtain ⟨s1, es1, f1, m1, m2, m3, m4⟩ := w_closure d hd n l s C hC e30
  obtain ⟨s2, es2, f2, l1, l2, l3, l4⟩ := w_list d hd (nI C) l' s1 L hL (by rw [f1.2.1 33 rfl]; exact e33)
  have f : z_F [53, 54, 55, 56] [30, 33] [] s s2 := z_F.tr (z_F.mono f1 rfl) (z_F.mono f2 rfl)
  refine ⟨s1, s2, es1, es2, f, fun lo n W => ⟨⟨z_F.mono f rfl, ⟨o_ag.of f rfl, fun h hh => ?_, fun h hh => ?_, fun h _ => by rw [f.1 59 rfl (by decide), f.1 60 rfl (by decide)]; exact ⟨rfl, rfl⟩⟩, fun i _ _ => by rw [f.1 40 rfl (by decide), f.1 41 rfl (by decide), f.1 42 rfl (by decide)]; exact ⟨rfl, rfl, rfl⟩, fun i _ => by rw [f.1 64 rfl (by decide), f.1 65 rfl (by decide)]; exact ⟨rfl, rfl⟩, fun i _ => by rw [f.1 66 rfl (by decide)]⟩, f.2.1 54 rfl, f.2.1 55 rfl⟩, by rw [f2.2.1 30 rfl]; exact m1, l1, by rw [f2.1 53 rfl (by decide)]; exact m2, by rw [f2.1 54 rfl (by decide)]; exact m3, l2, l3⟩
  · rw [f2.1 53 rfl (by decide), f2.1 54 rfl (by decide)]; exact m4 h hh
  · obtain ⟨e1, e2⟩ := l4 h hh
    rw [e1, e2, f1.1 55 rfl (by decide), f1.1 56 rfl (by decide)]; exact ⟨rfl, rfl⟩
theorem h_D.fld {M : Nat} {s σ : c_S} {S Y : List Nat} (h : h_D M s) (f : z_F S Y [] s σ) (hS : (!(c_has S 37) && !(c_has S 43) && !(c_has S 44) && !(c_has S 45) && !(c_has S 46)) = true) (hY : (!(c_has Y 9) && !(c_has Y 16) && !(c_has Y 41) && !(c_has Y 59)) = true) : h_D M σ := by
  simp only [Bool.and_eq_true, Bool.not_eq_true'] at hY
  obtain ⟨⟨⟨y1, y2⟩, y3⟩, y4⟩ := hY
  obtain ⟨⟨h1, h2, m, h3, h4⟩, h5, h6⟩ := h
  exact ⟨⟨h1.of f hS, by rw [f.2.1 9 y1]; exact h2, m, h3, by rw [f.2.1 16 y2]; exact h4⟩, by rw [f.2.1 41 y3]; exact h5, by rw [f.2.1 59 y4]; exact h6⟩
/-- what one object more behind leaves -/
def h_1P (κ : Nat → Std.Format) (nc M C L W t T R lo h w1 w2 y0 b n : Nat) (Γ : List Std.Format) (s σ : c_S) : Prop := h_ex lo b C L W T R Γ.length s σ ∧ (h_D M σ ∨ ∃ C' L' W' t' S' T' y1 τ, h_S κ nc M C' L' W' t' S' T' R Γ σ ∧ (C ≤ C' ∧ L ≤ L' ∧ W ≤ W' ∧ T ≤ T' ∧ t ≤ t') ∧ C' + y1 + lo ≤ C + y0 + (h + 2) * w2 + b + 2 ∧ L' + y1 + lo ≤ L + y0 + (h + 2) * w2 + b + 2 ∧ T' + lo ≤ T + b + 2 ∧ W' + t ≤ W + t' ∧ h_R κ nc C' L' W' h (w1 + w2 + 1) y1 Γ n τ σ)
set_option maxHeartbeats 2000000 in
theorem h_one (κ : Nat → Std.Format) (nc M d g : Nat) (hd : 410 ≤ d) (hO : h_SO κ nc M d g) (C L W t S T R k h w1 w2 y0 n a b : Nat) (Γ : List Std.Format) (τ0 : Std.Format) (s : c_S) (hs : h_S κ nc M C L W t S T R Γ s) (hn : n < 120000) (ek : s.1 40 n = 6) (ea : s.1 41 n = nI a) (eb : s.1 42 n = nI b) (han : a < n) (hbn : b < n) (tb : x_T s (a + 1) k g h w2 b) (hΓ : Γ.length + h ≤ 38) (hRw : R + w2 ≤ 700) (hw1 : w1 ≤ 700) (hr : h_R κ nc C L W h w1 y0 Γ a τ0 s) (bC : C + y0 + (h + 2) * w2 + b + 1 ≤ 200000 + (a + 1)) (bL : L + y0 + (h + 2) * w2 + b + 1 ≤ 200000 + (a + 1)) (bT : T + b + 2 ≤ 136000 + (a + 1)) : k_ok (c_M (d + 1) 75 [v_r 34, v_i (nI n)] s) (fun σ _ => h_1P κ nc M C L W t T R (a + 1) h w1 w2 y0 b n Γ s σ) := by
  have l2 := x_T_lo tb
  obtain ⟨p, hp, ep⟩ := (hs.1.1.2.2 n).2.1
  obtain ⟨⟨ka, hOa⟩, hok0, hfin0, ⟨na, Γa, k3, ky, is1, is2, is3⟩, ⟨bt, kt, y2, tt1, tt2, tt3⟩, hy0⟩ := hr
  have hT0 := hs.2.2.2.2.1
  rw [m_Rm_oneBehind, e_Rm_oneBehind_0, c_rg_nI (by omega) (by decide), nI_clamp (show n < 2 ^ 31 by omega), ep]
  refine k_bd (h_stepAt d (by omega) p hp s hs (by omega)) (fun s1 x1 g1 => ?_)
  obtain ⟨f1, D1 | h1⟩ := g1
  · rw [if_pos D1.1.2.1]
    exact k_some ⟨h_ex.fld (z_F.mono f1 rfl), Or.inl D1⟩
  have X1 : ∀ lo n, h_ex lo n C L W T R Γ.length s s1 := fun lo n => h_ex.fld (z_F.mono f1 rfl)
  rw [if_neg (by rw [h1.1.2.1]; decide), f1.2.1 60 rfl, f1.2.1 61 rfl, f1.2.1 62 rfl, is1, tt1]
  refine k_bd (w_shows d (by omega) ky y0 k3 na C L Γa τ0 _ s1 h1.2.2.2.2.2.2.1.1 h1.2.1.1 h1.2.1.2.1 (by omega) (by omega) (by omega) ((X1 0 0).1.Y (by omega) hT0.1 h1.2.2.2.2.1.1 (Nat.le_refl _) (by omega) ky y0 Γa na τ0 is2) ((X1 0 0).1.W is3 (Nat.le_refl _) (Nat.le_refl _) (Nat.le_refl _) (Nat.le_refl _))) (fun s2 x2 g2 => ?_)
  obtain ⟨C2, L2, h2, X2, c1, c2, f2, hs2⟩ := h1.sh g2
  have X02 : ∀ lo n, h_ex lo n C L W T R Γ.length s s2 := fun lo n => (X1 lo n).tr (X2 lo n) (Nat.le_refl _) (Nat.le_refl _) (Nat.le_refl _) (Nat.le_refl _) (Nat.le_refl _) (Nat.le_refl _)
  have e42 : s2.1 42 n = nI b := by rw [f2.1 42 rfl (by decide), f1.1 42 rfl (by decide)]; exact eb
  have e44 : s2.1 44 n = nI p := by rw [f2.1 44 rfl (by decide), f1.1 44 rfl (by decide)]; exact ep
  rcases hs2 with ⟨rfl, s', ρ, fa, fb, la, lb, Γf, j1, j2, j3, y', yC, yL, rfl, p43, p44, p45, p46, rfl, pF, pY, pW⟩ | ⟨rfl, -⟩
  · rw [if_neg (by decide), e_Rm_oneBehind_62, c_rg_nI (by omega) (by decide), nI_clamp (show n < 2 ^ 31 by omega), e42, p43, p44, p45, p46]
    obtain ⟨hs37, hoks, hokρ⟩ := id (show (f_n s' ≤ 37 ∧ f_fin s') ∧ f_ok s' ∧ f_ok ρ from hok0)
    refine k_bd (hO C2 L2 W (t + 1) (S + 1) T R (a + 1) k h w2 b Γ s2 ⟨h2, (X02 (b + 1) 0).1.T hT0.2.1 tb (by omega), hΓ, by omega, by omega, by omega, by omega⟩) (fun s3 x3 g3 => ?_)
    obtain ⟨X3, D3 | ⟨C3, L3, W3, t3, S3, T3, y3, τ3, h3, ⟨n1, n2, n3, n4, n5⟩, cC, cL, cT, cW, ⟨kb, hOb⟩, hokb, hfinb, ⟨nb, Γb, kb3, kyb, ib1, ib2, ib3⟩, -, hy3⟩⟩ := g3
    · rw [if_pos D3.1.2.1]
      exact k_some ⟨(X02 (a + 1) b).tr X3 c1 c2 (Nat.le_refl _) (Nat.le_refl _) (Nat.le_refl _) (Nat.le_refl _), Or.inl D3⟩
    have hT3 := h3.2.2.2.2.1
    have X03 : h_ex (a + 1) b C L W T R Γ.length s s3 := (X02 (a + 1) b).tr X3 c1 c2 (Nat.le_refl _) (Nat.le_refl _) (Nat.le_refl _) (Nat.le_refl _)
    obtain ⟨z40, z41, z42⟩ := X03.1.2.2.1 n (by omega) (Or.inr hbn)
    rw [if_neg (by rw [h3.1.2.1]; decide), c_rg_nI (by omega) (by decide), ib1, X03.1.1.1 44 rfl (by decide), ep]
    refine k_bd (h_wanted d (by omega) nb fa y3 0 kyb 1 kb3 j3 p Γb Γf τ3 s' _ la hp s3 h3 (by omega) (by omega) (by omega) (by omega) (by omega) hokb hfinb hoks hs37.2 ib2 (o_F_Y (by omega) (X3.1.F pF)) ib3 (X3.1.W pW (Nat.le_refl _) n1 n2 n3)) (fun s4 x4 g4 => ?_)
    obtain ⟨X4, ⟨q30, q33, q17, q42, q40, q41⟩, ans4⟩ := g4
    have c54 : s4.1 34 54 = s.1 34 54 := ((X4 0 0).2.1).trans X03.2.1
    rw [c_rg_nI (by omega) (by decide), q42, z42, eb]
    obtain ⟨s5, s6, es5, es6, f6, X6, r30, r33, r53, r54, r55, r56⟩ := h_cl d (by omega) C3 L3 T3 R Γ.length (nI b) (s4.1 34 54) la s4 (by omega) (by omega) q30 q33
    rw [es5, c_bd_some, es6, c_bd_some, c_rg_nI (by omega) (by decide)]
    rw [show s6.1 42 n = nI b by rw [f6.1 42 rfl (by decide), q42, z42, eb]]
    obtain ⟨s7, es7, F7, X7, t71, t72, t73, t74⟩ := h_tn d (by omega) 10 (nI bt) (nI b) s6 (by rw [f6.2.1 17 rfl]; exact q17) hT3.2.1 (by omega)
    rw [es7, c_bd_some]
    obtain ⟨s8, es8, F8, i81, i82, i83⟩ := h_is d (by omega) (nI fb) (nI L3) (nI T3) s7
    rw [es8, c_bd_some]
    have X48 : ∀ lo n, h_ex lo n C3 L3 W3 T3 R Γ.length s4 s8 := fun lo n => ((X6 lo n W3).tr (X7 lo n C3 L3 W3 R Γ.length) (Nat.le_refl _) (Nat.le_refl _) (Nat.le_refl _) (Nat.le_refl _) (Nat.le_refl _) (Nat.le_refl _)).tr (h_ex.fld (z_F.mono F8 rfl)) (Nat.le_refl _) (Nat.le_refl _) (Nat.le_refl _) (Nat.le_refl _) (Nat.le_refl _) (Nat.le_refl _)
    have X38 : ∀ lo n, h_ex lo n C3 L3 W3 T3 R Γ.length s3 s8 := fun lo n => (X4 lo n).tr (X48 lo n) (Nat.le_refl _) (Nat.le_refl _) (Nat.le_refl _) (Nat.le_refl _) (Nat.le_refl _) (Nat.le_refl _)
    have X08 : h_ex (a + 1) b C L W T R Γ.length s s8 := X03.tr (X38 (a + 1) b) (by omega) (by omega) (by omega) (by omega) (Nat.le_refl _) (Nat.le_refl _)
    have F48 : z_F [40, 41, 42, 53, 54, 55, 56] [17, 30, 33, 60, 61, 62] [] s4 s8 := z_F.tr (z_F.mono f6 rfl) (z_F.tr (z_F.mono F7 rfl) (z_F.mono F8 rfl))
    rcases ans4 with D4 | ⟨rfl, t4, S4, ht4, h4⟩
    · exact k_some ⟨X08, Or.inl (D4.fld F48 rfl rfl)⟩
    have w17 : s8.1 34 17 = nI (T3 + 1) := by rw [F8.2.1 17 rfl]; exact t71
    have h8 : h_S κ nc M (C3 + 1) (L3 + 1) W3 t4 S4 (T3 + 1) R Γ s8 := h4.to (X48 0 0) (by omega) (by omega) (Nat.le_refl _) h4.2.1.2.2.2.2 (by rw [F48.2.1 9 rfl]; exact h4.1.2.1) (by rw [F8.2.1 30 rfl, F7.2.1 30 rfl]; exact r30) (by rw [F8.2.1 33 rfl, F7.2.1 33 rfl]; exact r33) (by rw [F48.2.1 36 rfl]; exact h4.2.1.2.2.1) (by rw [F48.2.1 40 rfl]; exact h4.2.1.2.2.2.1) (by rw [F48.2.1 42 rfl]; exact h4.2.2.1.1) h4.2.2.1.2 (by rw [F48.2.1 41 rfl]; exact h4.2.2.2.1.1) h4.2.2.2.1.2 w17 (by omega) (by rw [F48.2.1 59 rfl]; exact h4.2.2.2.2.2.1)
    obtain ⟨v40, v41, v42⟩ := X08.1.2.2.1 n (by omega) (Or.inr hbn)
    have hOb8 : o_T s8 κ nc kb h Γ b τ3 := (X38 0 0).1.O hOb
    have hOa8 : o_T s8 κ nc ka h Γ a (f_a τ3 ρ) := X08.1.O hOa
    have X28 : h_fr (a + 1) b C2 L2 W T R Γ.length s2 s8 := X3.1.tr (X38 (a + 1) b).1 n1 n2 n3 n4 (Nat.le_refl _) (Nat.le_refl _)
    obtain ⟨kc, hctx⟩ := hs.2.2.2.2.2.2.2.2.2
    have hcl : w_W s8 κ nc (C3 + 1) (L3 + 1) W3 (kc + 1) (.inl C3) [τ3] := ⟨by omega, Or.inl ⟨τ3, b, Γ, rfl, by rw [F8.1 53 rfl (by decide), F7.1 53 rfl (by decide)]; exact r53, ⟨kb, h, by omega, hOb8⟩, by rw [F8.1 54 rfl (by decide), F7.1 54 rfl (by decide), r54, c54]; exact X08.1.W hctx (Nat.le_refl _) (by omega) (by omega) (by omega)⟩⟩
    refine k_some ⟨X08, Or.inr ⟨C3 + 1, L3 + 1, W3, t4, S4, T3 + 1, y', ρ, h8, ⟨by omega, by omega, by omega, by omega, by omega⟩, by omega, by omega, by omega, by omega, ⟨max ka kb + 1, hn, Or.inr (Or.inr (Or.inr ⟨v40.trans ek, a, b, τ3, v41.trans ea, v42.trans eb, han, hbn, o_T_k ka _ h Γ a _ (by omega) hOa8, o_T_k kb _ h Γ b _ (by omega) hOb8⟩))⟩, hokρ, hfin0, ⟨fb, τ3 :: Γf, max (kc + 1) j3 + 1, j2, i81, X28.Y (by omega) h2.2.2.2.2.1.1 w17 (by omega) (by omega) j2 y' _ fb ρ pY, ?_⟩, ⟨T3, kt + 1, y2 + 1, i83, ?_, by omega⟩, by omega⟩⟩
    · rw [i82]
      exact ⟨L3, C3, rfl, by omega, by rw [F8.1 55 rfl (by decide), F7.1 55 rfl (by decide)]; exact r55, ⟨hs37, hoks⟩, w_W_up (Nat.le_refl _) (Nat.le_refl _) (Nat.le_refl _) (kc + 1) _ _ _ (by omega) hcl, by rw [F8.1 56 rfl (by decide), F7.1 56 rfl (by decide), r56]; exact X28.W pW (by omega) (by omega) (by omega) (by omega)⟩
    · exact ⟨⟨by omega, Or.inr (by rw [w17, nI_clamp (show T3 + 1 < 2 ^ 31 by omega)]; omega)⟩, Or.inr (Or.inr (Or.inr (Or.inr ⟨by rw [F8.1 40 rfl (by decide)]; exact t72, bt, b, τ3, y2, kb, h, rfl, by rw [F8.1 41 rfl (by decide)]; exact t73, by rw [F8.1 42 rfl (by decide)]; exact t74, by omega, ⟨hs37, hoks⟩, hOb8, X08.1.Y (by omega) hT0.1 w17 (by omega) (by omega) kt y2 Γ bt _ tt2⟩)))⟩
  · rw [if_pos rfl, c_rg_nI (by omega) (by decide), e44]
    exact k_bd (h_wrong d (by omega) 8 (by decide) p hp s2 h2 (by omega)) (fun σ r g => k_some ⟨(X02 (a + 1) b).tr (h_ex.fld (z_F.mono g.1 rfl)) c1 c2 (Nat.le_refl _) (Nat.le_refl _) (Nat.le_refl _) (Nat.le_refl _), Or.inl g.2⟩)
