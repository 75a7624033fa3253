set_option maxHeartbeats 2000000 in
/-- a { } -/
theorem h_pi (κ : Nat → Std.Format) (nc M d g : Nat) (hd : 10 ≤ d) (hF : h_SF κ nc M d g) (C L W t S T R lo k h w1 w2 w n a b : Nat) (Γ : List Std.Format) (ok : Int32) (s : c_S) (hs : h_S κ nc M C L W t S T R Γ s) (hn : n < 120000) (ek : s.1 40 n = 5) (ea : s.1 41 n = nI a) (eb : s.1 42 n = nI b) (han : a < n) (hbn : b < n) (hw : w1 + w2 ≤ w) (ta : x_T s lo k g h w1 a) (tb : x_T s (a + 1) k g h w2 b) (hΓ : Γ.length + (h + 1) ≤ 38) (hRw : R + w ≤ 700) (bC : C + (h + 1 + 2) * w + n + 1 ≤ 200000 + lo) (bL : L + (h + 1 + 2) * w + n + 1 ≤ 200000 + lo) (bT : T + n + 1 ≤ 136000 + lo) (p : Nat) (hp : p < 4002) :
    k_ok (c_bd (c_M d 46 [v_r 34, v_i (nI p)] s) fun s11 _ => c_rg (nI n) 136000 (c_bd (c_M d 68 [v_r 34, v_i (s11.1 41 n), v_i 0] s11) fun s12 _ => if s12.1 34 9 = 0 then c_bd (c_M d 64 [v_r 34, v_i (nI n)] s12) fun s13 _ => c_rg (nI n) 136000 (c_bd (c_M d 68 [v_r 34, v_i (s13.1 42 n), v_i ok] s13) fun s14 _ => c_bd (c_M d 65 [v_r 34] s14) fun s15 _ => some (s15, 0)) else some (s12, 0))) (fun σ _ => h_FP κ nc M C L W t T R lo (h + 1) w n Γ ok s σ) := by
  have l1 := x_T_lo ta
  have l2 := x_T_lo tb
  have mm := h_mul (h := h) hw
  have m1 := h_mul1 (h := h) (w := w)
  refine k_bd (h_stepAt d (by omega) p hp s hs (by omega)) (fun s1 x1 g1 => ?_)
  obtain ⟨f1, D1 | h1⟩ := g1
  · rw [c_rg_nI (by omega) (by decide), h_famD d (by omega) _ _ s1 D1, c_bd_some, if_neg (x_gt D1.1)]
    exact k_some ⟨h_ex.fld (z_F.mono f1 rfl), Or.inl D1⟩
  have X1 : ∀ lo n, h_ex lo n C L W T R Γ.length s s1 := fun lo n => h_ex.fld (z_F.mono f1 rfl)
  have hT0 := hs.2.2.2.2.1.2.1
  rw [c_rg_nI (by omega) (by decide), f1.1 41 rfl (by decide), ea]
  refine k_bd (hF C L W (t + 1) (S + 1) T R lo k h w1 a Γ 0 s1 ⟨h1, (X1 (a + 1) 0).1.T hT0 ta (by omega), by omega, by omega, by omega, by omega, by omega⟩) (fun s2 x2 g2 => ?_)
  obtain ⟨X2, D2 | ⟨C2, L2, W2, t2, S2, T2, τa, h2, ⟨n1, n2, n3, n4, n5⟩, c2, d2, e2, w2', ⟨ka, hFa⟩, hfin⟩⟩ := g2
  · rw [if_neg (x_gt D2.1)]
    exact k_some ⟨(X1 lo n).tr (X2.le (Nat.le_refl _) (by omega) (Nat.le_refl _) (Nat.le_refl _) (Nat.le_refl _) (Nat.le_refl _) (Nat.le_refl _) (Nat.le_refl _)) (Nat.le_refl _) (Nat.le_refl _) (Nat.le_refl _) (Nat.le_refl _) (Nat.le_refl _) (Nat.le_refl _), Or.inl D2⟩
  have hfin := hfin rfl
  have hT2 := h2.2.2.2.2.1.2
  have X02 : h_ex lo a C L W T R Γ.length s s2 := (X1 lo a).tr X2 (Nat.le_refl _) (Nat.le_refl _) (Nat.le_refl _) (Nat.le_refl _) (Nat.le_refl _) (Nat.le_refl _)
  obtain ⟨z40, z41, z42⟩ := X02.1.2.2.1 n (by omega) (Or.inr han)
  rw [if_pos h2.1.2.1]
  have hW2 : W2 + 1 ≤ t2 := by have := hs.2.1.2.2.2.2; omega
  obtain ⟨s3, es3, h3, X3, c54, c56, f3⟩ := h_bind d (by omega) n a ka τa hn s2 h2 (by omega) (by omega) (by omega) hW2 (z41.trans ea) (o_F_up ka h 37 Γ a τa (by omega) hFa) hfin
  rw [es3, c_bd_some, c_rg_nI (by omega) (by decide)]
  have z42' : s3.1 42 n = nI b := by rw [f3.1 42 rfl (by decide)]; exact z42.trans eb
  rw [z42']
  have tb3 : x_T s3 (a + 1) k g h w2 b := (X3 lo a).T hT2.1 (X02.1.T hT0 tb (by omega)) (by omega)
  refine k_bd (hF (C2 + 1) (L2 + 1) (W2 + 1) t2 S2 T2 R (a + 1) k h w2 b (τa :: Γ) ok s3 ⟨h3, tb3, by rw [List.length_cons]; omega, by omega, by omega, by omega, by omega⟩) (fun s4 x4 g4 => ?_)
  obtain ⟨X4, ans4⟩ := g4
  have q54 : s4.1 34 54 = nI L2 := X4.2.1.trans c54
  have q55 : s4.1 34 55 = nI (Γ.length + 1) := X4.2.2.trans h3.2.2.2.2.2.2.2.1
  have q56 : s4.1 56 L2 = s2.1 34 54 := (X4.1.2.1.2.2.1 L2 (by omega)).2.trans c56
  rw [h_unbind d (by omega) L2 Γ.length (by omega) s4 q54 q55, c_bd_some, q56]
  have f5 : z_F [] [54, 55] [] s4 (c_put (c_put s4 34 55 (nI Γ.length)) 34 54 (s2.1 34 54)) := z_F.puf (z_F.puf z_F.rf rfl) rfl
  have r54 : (c_put (c_put s4 34 55 (nI Γ.length)) 34 54 (s2.1 34 54)).1 34 54 = s2.1 34 54 := c_put_same
  have r55 : (c_put (c_put s4 34 55 (nI Γ.length)) 34 54 (s2.1 34 54)).1 34 55 = nI Γ.length := by rw [c_put_get, if_neg (by decide), c_put_same]
  generalize c_put (c_put s4 34 55 (nI Γ.length)) 34 54 (s2.1 34 54) = s5 at f5 r54 r55 ⊢
  have X45 : h_fr (a + 1) b (C2 + 1) (L2 + 1) (W2 + 1) T2 R Γ.length s4 s5 := h_fr.fld (z_F.mono f5 rfl)
  have X35 : h_fr (a + 1) b (C2 + 1) (L2 + 1) (W2 + 1) T2 R Γ.length s3 s5 := (X4.1.le (Nat.le_refl _) (Nat.le_refl _) (Nat.le_refl _) (Nat.le_refl _) (Nat.le_refl _) (Nat.le_refl _) (Nat.le_refl _) (by rw [List.length_cons]; omega)).tr X45 (Nat.le_refl _) (Nat.le_refl _) (Nat.le_refl _) (Nat.le_refl _) (Nat.le_refl _) (Nat.le_refl _)
  have X25f : h_fr (a + 1) b C2 L2 W2 T2 R Γ.length s2 s5 := (X3 (a + 1) b).tr X35 (by omega) (by omega) (by omega) (Nat.le_refl _) (Nat.le_refl _) (Nat.le_refl _)
  have X25 : h_ex (a + 1) b C2 L2 W2 T2 R Γ.length s2 s5 := ⟨X25f, r54, r55.trans h2.2.2.2.2.2.2.2.1.symm⟩
  have X05 : h_ex lo n C L W T R Γ.length s s5 := (X02.le (Nat.le_refl _) (by omega) (Nat.le_refl _) (Nat.le_refl _) (Nat.le_refl _) (Nat.le_refl _) (Nat.le_refl _) (Nat.le_refl _)).tr (X25.le (by omega) (by omega) (Nat.le_refl _) (Nat.le_refl _) (Nat.le_refl _) (Nat.le_refl _) (Nat.le_refl _) (Nat.le_refl _)) n1 n2 n3 n4 (Nat.le_refl _) (Nat.le_refl _)
  rcases ans4 with D4 | ⟨C4, L4, W4, t4, S4, T4, τ, h4, ⟨p1, p2, p3, p4, p5⟩, cC, cL, cT, cW, ⟨kb, hFb⟩, hfinb⟩
  · have D5 : h_D M s5 := ⟨D4.1.of (z_F.mono f5 rfl : z_F [] [54, 55] [] s4 s5) rfl, by rw [f5.2.1 41 rfl]; exact D4.2.1, by rw [f5.2.1 59 rfl]; exact D4.2.2⟩
    exact k_some ⟨X05, Or.inl D5⟩
  obtain ⟨⟨q1, q2, m, q3, q4⟩, ⟨b1, b2, b3, b4, b5⟩, u1, u2, ⟨v1, v2⟩, v3, -⟩ := id h4
  have h5 : h_S κ nc M C4 L4 W4 t4 S4 T4 R Γ s5 := h2.to X25 (by omega) (by omega) (by omega) b5 (by rw [f5.2.1 9 rfl]; exact q2) (by rw [f5.2.1 30 rfl]; exact b1) (by rw [f5.2.1 33 rfl]; exact b2) (by rw [f5.2.1 36 rfl]; exact b3) (by rw [f5.2.1 40 rfl]; exact b4) (by rw [f5.2.1 42 rfl]; exact u1.1) u1.2 (by rw [f5.2.1 41 rfl]; exact u2.1) u2.2 (by rw [f5.2.1 17 rfl]; exact v1) v2 (by rw [f5.2.1 59 rfl]; exact v3)
  obtain ⟨y40, y41, y42⟩ := X25f.2.2.1 n (by omega) (Or.inr hbn)
  have hFa5 : o_F s5 κ nc ka h Γ a τa := X25f.F hFa
  have hFb5 : o_F s5 κ nc kb h (τa :: Γ) b τ := X45.F hFb
  have kup : ∀ (k k' hh : Nat) (Γ : List Std.Format) (n : Nat) (τ : Std.Format), k ≤ k' → o_F s5 κ nc k hh Γ n τ → o_F s5 κ nc k' hh Γ n τ := by
    intro k
    induction k with
    | zero => intro k' hh Γ n τ _ hx; exact hx.elim
    | succ k ih =>
      intro k' hh Γ n τ hk hx
      obtain ⟨k', rfl⟩ : ∃ e, k' = e + 1 := ⟨k' - 1, by omega⟩
      obtain ⟨hn, hx⟩ := hx
      refine ⟨hn, ?_⟩
      rcases hx with ⟨e, a, b, h', s, r, q1, q2, q3, q4, q5, q6, q7, q8⟩ | hx | hx
      · exact Or.inl ⟨e, a, b, h', s, r, q1, q2, q3, q4, q5, q6, ih k' h' Γ a s (by omega) q7, ih k' h' _ b r (by omega) q8⟩
      · exact Or.inr (Or.inl hx)
      · exact Or.inr (Or.inr hx)
  exact k_some ⟨X05, Or.inr ⟨C4, L4, W4, t4, S4, T4, f_a τa τ, h5, ⟨by omega, by omega, by omega, by omega, by omega⟩, by omega, by omega, by omega, by omega, ⟨max ka kb + 1, hn, Or.inl ⟨y40.trans (z40.trans ek), a, b, h, τa, τ, rfl, y41.trans (z41.trans ea), y42.trans (z42.trans eb), han, hbn, ⟨rfl, hfin⟩, kup ka _ h Γ a τa (by omega) hFa5, kup kb _ h _ b τ (by omega) hFb5⟩⟩, fun e => hfinb e⟩⟩
set_option maxHeartbeats 2000000 in
theorem h_SF_step (κ : Nat → Std.Format) (nc M d g : Nat) (hd : 420 ≤ d) (ih : ∀ g' d', g = g' + 1 → d ≤ d' → h_SO κ nc M d' g' ∧ h_SF κ nc M d' g') : h_SF κ nc M (d + 4) g := by
  intro C L W t S T R lo k h w n Γ ok s H
  obtain ⟨hs, tr, hΓ, hRw, bC, bL, bT⟩ := id H
  have lt := x_T_lo tr
  have hn : n < 120000 := lt.2
  obtain ⟨p, hp, ep⟩ := (hs.1.1.2.2 n).1
  obtain ⟨p2, hp2, ep2⟩ := (hs.1.1.2.2 n).2.1
  cases k with
  | zero => exact tr.elim
  | succ k =>
    have tr0 := tr
    obtain ⟨-, -, tr⟩ := tr
    rw [m_Rm_family, e_Rm_family_0, if_neg (by rw [hs.1.2.1]; decide), c_rg_nI (by omega) (by decide), nI_clamp (show n < 2 ^ 31 by omega)]
    rcases tr with (e | e) | ⟨e | e, a, b, g', h', w1, w2, q1, q0, q2, q3, q4, q5, q6, q7, q8⟩ | ⟨e, -⟩
    · rw [if_neg (by rw [e]; decide), if_neg (by rw [e]; decide), if_neg (by rw [e]; decide), if_neg (by rw [e]; decide), if_neg (by rw [e]; decide), if_neg (by rw [e]; decide)]
      have dead : ∀ σ, h_ex lo n C L W T R Γ.length s σ → h_D M σ → k_ok (b_Rm_family_189 (c_M (d + 3)) (nI n) σ) (fun σ _ => h_FP κ nc M C L W t T R lo h w n Γ ok s σ) := fun σ X D => by
        rw [e_Rm_family_189, if_neg (x_gt D.1)]
        exact k_some ⟨X, Or.inl D⟩
      refine k_bd (h_find (d + 3) (by omega) n hn s hs (by omega) (by omega) e) (fun s1 x1 g1 => ?_)
      obtain ⟨X1, g1⟩ := g1
      have X1 : h_ex lo n C L W T R Γ.length s s1 := X1.le (by omega) (Nat.le_refl _) (Nat.le_refl _) (Nat.le_refl _) (Nat.le_refl _) (Nat.le_refl _) (Nat.le_refl _) (Nat.le_refl _)
      rcases g1 with D1 | ⟨h1, hk⟩
      · rw [if_neg (x_gt D1.1)]
        exact dead s1 X1 D1
      rw [if_pos h1.1.2.1, m_Rm_isFamilyNode, e_Rm_isFamilyNode_0, c_rg_nI (by omega) (by decide), nI_clamp (show n < 2 ^ 31 by omega)]
      obtain ⟨q, hq, eq⟩ := (h1.1.1.2.2 n).1
      have bad : k_ok (c_rg (nI n) 136000 (c_bd (c_M (d + 3) 25 [v_r 34, v_i 6, v_i (s1.1 43 n)] s1) fun s5 _ => b_Rm_family_189 (c_M (d + 3)) (nI n) s5)) (fun σ _ => h_FP κ nc M C L W t T R lo h w n Γ ok s σ) := by
        rw [c_rg_nI (by omega) (by decide), eq]
        exact k_bd (h_wrong (d + 3) (by omega) 6 (by decide) q hq s1 h1 (by omega)) (fun σ r g => dead σ (X1.tr (h_ex.fld (z_F.mono g.1 rfl)) (Nat.le_refl _) (Nat.le_refl _) (Nat.le_refl _) (Nat.le_refl _) (Nat.le_refl _) (Nat.le_refl _)) g.2)
      rcases hk with ⟨i, hi, k1, k2⟩ | ⟨c, hc, k1, k2⟩
      · rw [if_neg (by rw [k1]; decide), c_bd_some, if_pos rfl]
        exact bad
      obtain ⟨-, ⟨b1, b2, b3, b4, b5⟩, -, -, ⟨e1, e2⟩, -, ⟨w1, w2, w3⟩, -⟩ := id h1
      have hnc := w1.1
      rw [if_pos k1, c_rg_nI (by omega) (by decide), k2, c_rg_nI (by omega) (by decide), nI_clamp (show c < 2 ^ 31 by omega)]
      rcases w2 c hc with ⟨z1, -⟩ | ⟨z1, τs, z2⟩
      · rw [if_pos z1, c_bd_some, if_pos rfl]
        exact bad
      obtain ⟨v1, ⟨t5, k5, v2, v3⟩, -⟩ := w1.2 c hc
      have ht5 := (o_F_0 v3).1
      rw [if_neg z1, c_bd_some, if_neg (by decide), e_Rm_family_189, if_pos h1.1.2.1, c_rg_nI (by omega) (by decide), nI_clamp (show n < 2 ^ 31 by omega), k2, c_rg_nI (by omega) (by decide), nI_clamp (show c < 2 ^ 31 by omega), v2, c_rg_nI (by omega) (by decide), nI_clamp (show t5 < 2 ^ 31 by omega)]
      refine k_if (fun h5 => ?_) (fun h5 => ?_)
      · rw [c_rg_nI (by omega) (by decide), eq]
        exact k_bd (h_wrong (d + 3) (by omega) 4 (by decide) q hq s1 h1 (by omega)) (fun σ r g => k_some ⟨X1.tr (h_ex.fld (z_F.mono g.1 rfl)) (Nat.le_refl _) (Nat.le_refl _) (Nat.le_refl _) (Nat.le_refl _) (Nat.le_refl _) (Nat.le_refl _), Or.inl g.2⟩)
      · have hat := o_F_n5 v3 h5
        rw [z2] at hat
        have hτ := f_l_at hat
        subst hτ
        exact k_some ⟨X1, Or.inr ⟨C, L, W, t + 1, S + 1, T, f_b c, h1, ⟨Nat.le_refl _, Nat.le_refl _, Nat.le_refl _, Nat.le_refl _, by omega⟩, by omega, by omega, by omega, by omega, ⟨1, hn, Or.inr (Or.inl ⟨Or.inl k1, c, 1, h, by omega, hc, rfl, ⟨hn, Or.inr (Or.inl ⟨k1, c, k2, hc, z2.symm⟩)⟩, Or.inl ⟨k1, k2⟩⟩)⟩, fun _ => trivial⟩⟩
    · rw [if_pos e, c_rg_nI (by omega) (by decide), ep]
      refine k_bd (h_stepAt (d + 3) (by omega) p hp s hs (by omega)) (fun s1 x1 g1 => ?_)
      obtain ⟨f1, g1⟩ := g1
      have X1 : h_ex lo n C L W T R Γ.length s s1 := h_ex.fld (z_F.mono f1 rfl)
      refine k_if (fun hk => ?_) (fun hk => ?_)
      · rw [c_rg_nI (by omega) (by decide)]
        rcases g1 with D1 | h1
        · rw [x_wrongD (d + 3) (by omega) _ _ s1 D1.1, c_bd_some]
          exact k_some ⟨X1, Or.inl D1⟩
        · obtain ⟨q, hq, eq⟩ := (h1.1.1.2.2 n).1
          rw [eq]
          exact k_bd (h_wrong (d + 3) (by omega) 6 (by decide) q hq s1 h1 (by omega)) (fun σ r g => k_some ⟨X1.tr (h_ex.fld (z_F.mono g.1 rfl)) (Nat.le_refl _) (Nat.le_refl _) (Nat.le_refl _) (Nat.le_refl _) (Nat.le_refl _) (Nat.le_refl _), Or.inl g.2⟩)
      · rcases g1 with D1 | h1
        · exact k_some ⟨X1, Or.inl D1⟩
        · exact k_some ⟨X1, Or.inr ⟨C, L, W, t + 1, S + 1, T, f_t, h1, ⟨Nat.le_refl _, Nat.le_refl _, Nat.le_refl _, Nat.le_refl _, by omega⟩, by omega, by omega, by omega, by omega, ⟨1, hn, Or.inr (Or.inr ⟨by rw [f1.1 40 rfl (by decide)]; exact e, rfl⟩)⟩, fun e => absurd e hk⟩⟩
    · rw [if_neg (by rw [e]; decide), if_neg (by rw [e]; decide), if_neg (by rw [e]; decide), if_pos e, c_rg_nI (by omega) (by decide), ep2]
      exact k_mono (h_sw (d + 3) (by omega) p2 n hp2 hn s hs (by omega) lo n) (fun σ r g => ⟨g.1, Or.inl g.2⟩)
    · subst q0
      obtain ⟨-, hF⟩ := ih g' (d + 3) q1 (by omega)
      rw [if_neg (by rw [e]; decide), if_neg (by rw [e]; decide), if_neg (by rw [e]; decide), if_neg (by rw [e]; decide), if_pos e, c_rg_nI (by omega) (by decide), ep2]
      exact h_pi κ nc M (d + 3) g' (by omega) hF C L W t S T R lo k h' w1 w2 w n a b Γ ok s hs hn e q3 q4 q5 q6 q2 q7 q8 hΓ hRw bC bL bT p2 hp2
    · rw [if_neg (by rw [e]; decide), if_neg (by rw [e]; decide), if_neg (by rw [e]; decide), if_neg (by rw [e]; decide), if_neg (by rw [e]; decide), if_pos e]
      exact k_bd (h_fb κ nc M (d + 2) g (by omega) (fun g' e => (ih g' (d + 2) e (by omega)).1) C L W t S T R lo (k + 1) h w n Γ ok s H e) (fun σ r g => k_some g)
/-- checking ends, whatever is read -/
theorem h_all (κ : Nat → Std.Format) (nc M : Nat) : ∀ (g d : Nat), 4 * g + 424 ≤ d → h_SO κ nc M d g ∧ h_SF κ nc M d g
  | 0, d, hd => by
    obtain ⟨d, rfl⟩ : ∃ e, d = e + 4 := ⟨d - 4, by omega⟩
    exact ⟨h_SO_step κ nc M d 0 (by omega) (fun g' d' e _ => absurd e (by omega)), h_SF_step κ nc M d 0 (by omega) (fun g' d' e _ => absurd e (by omega))⟩
  | g + 1, d, hd => by
    obtain ⟨d, rfl⟩ : ∃ e, d = e + 4 := ⟨d - 4, by omega⟩
    have ih : ∀ g' d', g + 1 = g' + 1 → d ≤ d' → h_SO κ nc M d' g' ∧ h_SF κ nc M d' g' := fun g' d' e hd' => by
      have : g' = g := by omega
      subst this
      exact h_all κ nc M g' d' (by omega)
    exact ⟨h_SO_step κ nc M d (g + 1) (by omega) ih, h_SF_step κ nc M d (g + 1) (by omega) ih⟩
