theorem o_T_k {σ : c_S} {κ : Nat → Std.Format} {nc : Nat} : ∀ (k k' h : Nat) (Γ : List Std.Format) (n : Nat) (τ : Std.Format), k ≤ k' → o_T σ κ nc k h Γ n τ → o_T σ κ nc k' h Γ n τ
  | 0, _, _, _, _, _, _, hx => hx.elim
  | k + 1, 0, _, _, _, _, hk, _ => absurd hk (by omega)
  | k + 1, k' + 1, h, Γ, n, τ, hk, hx => by
    obtain ⟨hn, hx⟩ := hx
    refine ⟨hn, ?_⟩
    rcases hx with hx | hx | ⟨e, b, h', s, r, q1, q2, q3, q4, q5, q6, q7⟩ | ⟨e, a, b, s, q1, q2, q3, q4, q5, q6⟩
    · exact Or.inl hx
    · exact Or.inr (Or.inl hx)
    · exact Or.inr (Or.inr (Or.inl ⟨e, b, h', s, r, q1, q2, q3, q4, q5, q6, o_T_k k k' h' _ b r (by omega) q7⟩))
    · exact Or.inr (Or.inr (Or.inr ⟨e, a, b, s, q1, q2, q3, q4, o_T_k k k' h Γ a _ (by omega) q5, o_T_k k k' h Γ b _ (by omega) q6⟩))
theorem o_h_k {σ : c_S} : ∀ (k k' n c : Nat), k ≤ k' → o_h σ k n c → o_h σ k' n c
  | 0, _, _, _, _, hx => hx.elim
  | k + 1, 0, _, _, hk, _ => absurd hk (by omega)
  | k + 1, k' + 1, n, c, hk, hx => by
    rcases hx with hx | ⟨e, a, a1, a2, a3⟩
    · exact Or.inl hx
    · exact Or.inr ⟨e, a, a1, a2, o_h_k k k' a c (by omega) a3⟩
theorem h_objD (d : Nat) (hd : 1 ≤ d) {M : Nat} (n : Int32) (s : c_S) (h : h_D M s) : c_M d 71 [v_r 34, v_i n] s = some (s, 0) := by
  obtain ⟨d, rfl⟩ : ∃ e, d = e + 1 := ⟨d - 1, by omega⟩
  rw [m_Rm_object, e_Rm_object_0, if_pos h.1.2.1]
theorem h_famD (d : Nat) (hd : 1 ≤ d) {M : Nat} (n k : Int32) (s : c_S) (h : h_D M s) : c_M d 68 [v_r 34, v_i n, v_i k] s = some (s, 0) := by
  obtain ⟨d, rfl⟩ : ∃ e, d = e + 1 := ⟨d - 1, by omega⟩
  rw [m_Rm_family, e_Rm_family_0, if_pos h.1.2.1]
/-- a STEP, then it is wrong -/
theorem h_sw (d : Nat) (hd : 3 ≤ d) {κ : Nat → Std.Format} {nc M C L W t S T R : Nat} {Γ : List Std.Format} (p n : Nat) (hp : p < 4002) (hn : n < 120000) (s : c_S) (h : h_S κ nc M C L W t S T R Γ s) (hR : R ≤ 700) (lo m : Nat) : k_ok (c_bd (c_M d 46 [v_r 34, v_i (nI p)] s) fun s1 _ => c_rg (nI n) 136000 (c_bd (c_M d 25 [v_r 34, v_i 6, v_i (s1.1 43 n)] s1) fun s2 _ => some (s2, 0))) (fun σ _ => h_ex lo m C L W T R Γ.length s σ ∧ h_D M σ) := by
  refine k_bd (h_stepAt d hd p hp s h hR) (fun s1 x1 g1 => ?_)
  obtain ⟨f1, D1 | h1⟩ := g1
  · rw [c_rg_nI (by omega) (by decide), x_wrongD d (by omega) _ _ s1 D1.1, c_bd_some]
    exact k_some ⟨h_ex.fld (z_F.mono f1 rfl), D1⟩
  · rw [c_rg_nI (by omega) (by decide)]
    obtain ⟨q, hq, eq⟩ := (h1.1.1.2.2 n).1
    rw [eq]
    exact k_bd (h_wrong d (by omega) 6 (by decide) q hq s1 h1 hR) (fun σ r g => k_some ⟨h_ex.fld (z_F.tr (z_F.mono f1 rfl) (z_F.mono g.1 rfl)), g.2⟩)
/-- what checking a family leaves -/
def h_FP (κ : Nat → Std.Format) (nc M C L W t T R lo h w n : Nat) (Γ : List Std.Format) (ok : Int32) (s σ : c_S) : Prop := h_ex lo n C L W T R Γ.length s σ ∧ (h_D M σ ∨ ∃ C' L' W' t' S' T' τ, h_S κ nc M C' L' W' t' S' T' R Γ σ ∧ (C ≤ C' ∧ L ≤ L' ∧ W ≤ W' ∧ T ≤ T' ∧ t ≤ t') ∧ C' + lo ≤ C + (h + 2) * w + n + 1 ∧ L' + lo ≤ L + (h + 2) * w + n + 1 ∧ T' + lo ≤ T + n + 1 ∧ W' + t ≤ W + t' ∧ (∃ kk, o_F σ κ nc kk h Γ n τ) ∧ (ok = 0 → f_fin τ))
def h_pre (κ : Nat → Std.Format) (nc M C L W t S T R lo k g h w n : Nat) (Γ : List Std.Format) (s : c_S) : Prop := h_S κ nc M C L W t S T R Γ s ∧ x_T s lo k g h w n ∧ Γ.length + h ≤ 38 ∧ R + w ≤ 700 ∧ C + (h + 2) * w + n + 1 ≤ 200000 + lo ∧ L + (h + 2) * w + n + 1 ≤ 200000 + lo ∧ T + n + 1 ≤ 136000 + lo
def h_SO (κ : Nat → Std.Format) (nc M d g : Nat) : Prop := ∀ (C L W t S T R lo k h w n : Nat) (Γ : List Std.Format) (s : c_S), h_pre κ nc M C L W t S T R lo k g h w n Γ s → k_ok (c_M d 71 [v_r 34, v_i (nI n)] s) (fun σ _ => h_OP κ nc M C L W t T R lo h w n Γ s σ)
def h_SF (κ : Nat → Std.Format) (nc M d g : Nat) : Prop := ∀ (C L W t S T R lo k h w n : Nat) (Γ : List Std.Format) (ok : Int32) (s : c_S), h_pre κ nc M C L W t S T R lo k g h w n Γ s → k_ok (c_M d 68 [v_r 34, v_i (nI n), v_i ok] s) (fun σ _ => h_FP κ nc M C L W t T R lo h w n Γ ok s σ)
theorem h_mul {h w1 w2 w : Nat} (hw : w1 + w2 ≤ w) : (h + 2) * w1 + (h + 2) * w2 ≤ (h + 2) * w := by
  rw [← Nat.mul_add]; exact Nat.mul_le_mul_left _ hw
theorem h_mul1 {h w : Nat} : (h + 1 + 2) * w = (h + 2) * w + w := by
  rw [show h + 1 + 2 = (h + 2) + 1 by omega, Nat.add_mul, Nat.one_mul]
set_option maxHeartbeats 2000000 in
/-- a [ ] -/
theorem h_lambda (κ : Nat → Std.Format) (nc M d g : Nat) (hd : 10 ≤ d) (hO : h_SO κ nc M d g) (hF : h_SF κ nc M d g) (C L W t S T R lo k h w1 w2 w n a b : Nat) (Γ : List Std.Format) (s : c_S) (hs : h_S κ nc M C L W t S T R Γ s) (hn : n < 120000) (ek : s.1 40 n = 4) (ea : s.1 41 n = nI a) (eb : s.1 42 n = nI b) (han : a < n) (hbn : b < n) (hw : w1 + w2 ≤ w) (ta : x_T s lo k g h w1 a) (tb : x_T s (a + 1) k g h w2 b) (hΓ : Γ.length + (h + 1) ≤ 38) (hRw : R + w ≤ 700) (bC : C + (h + 1 + 2) * w + n + 1 ≤ 200000 + lo) (bL : L + (h + 1 + 2) * w + n + 1 ≤ 200000 + lo) (bT : T + n + 1 ≤ 136000 + lo) : k_ok (c_M (d + 1) 73 [v_r 34, v_i (nI n)] s) (fun σ _ => h_OP κ nc M C L W t T R lo (h + 1) w n Γ s σ) := by
  have l1 := x_T_lo ta
  have l2 := x_T_lo tb
  have mm := h_mul (h := h) hw
  have m1 := h_mul1 (h := h) (w := w)
  obtain ⟨p, hp, ep⟩ := (hs.1.1.2.2 n).2.1
  rw [m_Rm_lambda, e_Rm_lambda_0, c_rg_nI (by omega) (by decide), nI_clamp (show n < 2 ^ 31 by omega), ep]
  refine k_bd (h_stepAt d (by omega) p hp s hs (by omega)) (fun s1 x1 g1 => ?_)
  obtain ⟨f1, D1 | h1⟩ := g1
  · rw [c_rg_nI (by omega) (by decide), h_famD d (by omega) _ _ s1 D1, c_bd_some, if_pos D1.1.2.1]
    exact k_some ⟨h_ex.fld (z_F.mono f1 rfl), Or.inl D1⟩
  have X1 : ∀ lo n, h_ex lo n C L W T R Γ.length s s1 := fun lo n => h_ex.fld (z_F.mono f1 rfl)
  have hT0 := hs.2.2.2.2.1.2.1
  rw [c_rg_nI (by omega) (by decide), f1.1 41 rfl (by decide), ea]
  refine k_bd (hF C L W (t + 1) (S + 1) T R lo k h w1 a Γ 0 s1 ⟨h1, (X1 (a + 1) 0).1.T hT0 ta (by omega), by omega, by omega, by omega, by omega, by omega⟩) (fun s2 x2 g2 => ?_)
  obtain ⟨X2, D2 | ⟨C2, L2, W2, t2, S2, T2, τa, h2, ⟨n1, n2, n3, n4, n5⟩, c2, d2, e2, w2', ⟨ka, hFa⟩, hfin⟩⟩ := g2
  · rw [if_pos D2.1.2.1]
    exact k_some ⟨(X1 lo n).tr (X2.le (Nat.le_refl _) (by omega) (Nat.le_refl _) (Nat.le_refl _) (Nat.le_refl _) (Nat.le_refl _) (Nat.le_refl _) (Nat.le_refl _)) (Nat.le_refl _) (Nat.le_refl _) (Nat.le_refl _) (Nat.le_refl _) (Nat.le_refl _) (Nat.le_refl _), Or.inl D2⟩
  have hfin := hfin rfl
  have hT2 := h2.2.2.2.2.1.2
  have X02 : h_ex lo a C L W T R Γ.length s s2 := (X1 lo a).tr X2 (Nat.le_refl _) (Nat.le_refl _) (Nat.le_refl _) (Nat.le_refl _) (Nat.le_refl _) (Nat.le_refl _)
  obtain ⟨z40, z41, z42⟩ := X02.1.2.2.1 n (by omega) (Or.inr han)
  rw [if_neg (by rw [h2.1.2.1]; decide)]
  have hW2 : W2 + 1 ≤ t2 := by have := hs.2.1.2.2.2.2; omega
  obtain ⟨s3, es3, h3, X3, c54, c56, f3⟩ := h_bind d (by omega) n a ka τa hn s2 h2 (by omega) (by omega) (by omega) hW2 (z41.trans ea) (o_F_up ka h 37 Γ a τa (by omega) hFa) hfin
  rw [es3, c_bd_some, c_rg_nI (by omega) (by decide)]
  have z42' : s3.1 42 n = nI b := by rw [f3.1 42 rfl (by decide)]; exact z42.trans eb
  rw [z42']
  have tb3 : x_T s3 (a + 1) k g h w2 b := (X3 lo a).T hT2.1 (X02.1.T hT0 tb (by omega)) (by omega)
  refine k_bd (hO (C2 + 1) (L2 + 1) (W2 + 1) t2 S2 T2 R (a + 1) k h w2 b (τa :: Γ) s3 ⟨h3, tb3, by rw [List.length_cons]; omega, by omega, by omega, by omega, by omega⟩) (fun s4 x4 g4 => ?_)
  obtain ⟨X4, ans4⟩ := g4
  have q54 : s4.1 34 54 = nI L2 := X4.2.1.trans c54
  have q55 : s4.1 34 55 = nI (Γ.length + 1) := X4.2.2.trans h3.2.2.2.2.2.2.2.1
  have q56 : s4.1 56 L2 = s2.1 34 54 := (X4.1.2.1.2.2.1 L2 (by omega)).2.trans c56
  rw [h_unbind d (by omega) L2 Γ.length (by omega) s4 q54 q55, c_bd_some, q56]
  have f5 : z_F [] [54, 55] [] s4 (c_put (c_put s4 34 55 (nI Γ.length)) 34 54 (s2.1 34 54)) := z_F.puf (z_F.puf z_F.rf rfl) rfl
  have r54 : (c_put (c_put s4 34 55 (nI Γ.length)) 34 54 (s2.1 34 54)).1 34 54 = s2.1 34 54 := c_put_same
  have r55 : (c_put (c_put s4 34 55 (nI Γ.length)) 34 54 (s2.1 34 54)).1 34 55 = nI Γ.length := by rw [c_put_get, if_neg (by decide), c_put_same]
  generalize c_put (c_put s4 34 55 (nI Γ.length)) 34 54 (s2.1 34 54) = s5 at f5 r54 r55 ⊢
  have X45 : h_fr (a + 1) b (C2 + 1) (L2 + 1) (W2 + 1) T2 R Γ.length s4 s5 := h_fr.fld (z_F.mono f5 rfl)
  have X35 : h_fr (a + 1) b (C2 + 1) (L2 + 1) (W2 + 1) T2 R Γ.length s3 s5 := (X4.1.le (Nat.le_refl _) (Nat.le_refl _) (Nat.le_refl _) (Nat.le_refl _) (Nat.le_refl _) (Nat.le_refl _) (Nat.le_refl _) (by rw [List.length_cons]; omega)).tr X45 (Nat.le_refl _) (Nat.le_refl _) (Nat.le_refl _) (Nat.le_refl _) (Nat.le_refl _) (Nat.le_refl _)
  have X25f : h_fr (a + 1) b C2 L2 W2 T2 R Γ.length s2 s5 := (X3 (a + 1) b).tr X35 (by omega) (by omega) (by omega) (Nat.le_refl _) (Nat.le_refl _) (Nat.le_refl _)
  have X25 : h_ex (a + 1) b C2 L2 W2 T2 R Γ.length s2 s5 := ⟨X25f, r54, r55.trans h2.2.2.2.2.2.2.2.1.symm⟩
  have X05 : h_ex lo n C L W T R Γ.length s s5 := (X02.le (Nat.le_refl _) (by omega) (Nat.le_refl _) (Nat.le_refl _) (Nat.le_refl _) (Nat.le_refl _) (Nat.le_refl _) (Nat.le_refl _)).tr (X25.le (by omega) (by omega) (Nat.le_refl _) (Nat.le_refl _) (Nat.le_refl _) (Nat.le_refl _) (Nat.le_refl _) (Nat.le_refl _)) n1 n2 n3 n4 (Nat.le_refl _) (Nat.le_refl _)
  rcases ans4 with D4 | ⟨C4, L4, W4, t4, S4, T4, y4, τ, h4, ⟨p1, p2, p3, p4, p5⟩, cC, cL, cT, cW, ⟨kb, hOb⟩, hok, hfinb, -, ⟨bt, kt, y2, tt1, tt2, tt3⟩, -⟩
  · have D5 : h_D M s5 := ⟨D4.1.of (z_F.mono f5 rfl : z_F [] [54, 55] [] s4 s5) rfl, by rw [f5.2.1 41 rfl]; exact D4.2.1, by rw [f5.2.1 59 rfl]; exact D4.2.2⟩
    rw [if_neg (x_gt D5.1)]
    exact k_some ⟨X05, Or.inl D5⟩
  obtain ⟨⟨q1, q2, m, q3, q4⟩, ⟨b1, b2, b3, b4, b5⟩, u1, u2, ⟨v1, v2⟩, v3, -⟩ := id h4
  have h5 : h_S κ nc M C4 L4 W4 t4 S4 T4 R Γ s5 := h2.to X25 (by omega) (by omega) (by omega) b5 (by rw [f5.2.1 9 rfl]; exact q2) (by rw [f5.2.1 30 rfl]; exact b1) (by rw [f5.2.1 33 rfl]; exact b2) (by rw [f5.2.1 36 rfl]; exact b3) (by rw [f5.2.1 40 rfl]; exact b4) (by rw [f5.2.1 42 rfl]; exact u1.1) u1.2 (by rw [f5.2.1 41 rfl]; exact u2.1) u2.2 (by rw [f5.2.1 17 rfl]; exact v1) v2 (by rw [f5.2.1 59 rfl]; exact v3)
  obtain ⟨y40, y41, y42⟩ := X25f.2.2.1 n (by omega) (Or.inr hbn)
  have hT4 : T4 < 136000 := by omega
  rw [if_pos h5.1.2.1, c_rg_nI (by omega) (by decide), y41.trans (z41.trans ea), f5.2.1 62 rfl, tt1]
  obtain ⟨s6, es6, F6, X6, t61, t62, t63, t64⟩ := h_tn d (by omega) 9 (nI a) (nI bt) s5 h5.2.2.2.2.1.1 v2.1 hT4
  rw [es6, c_bd_some, e_Rm_lambda_72]
  obtain ⟨s7, es7, F7, i71, i72, i73⟩ := h_is d (by omega) (nI T4) (s6.1 34 54) (nI T4) s6
  rw [es7, c_bd_some]
  have X57 : ∀ lo n C L W, h_ex lo n C L W T4 R Γ.length s5 s7 := fun lo n C L W => (X6 lo n C L W R Γ.length).tr (h_ex.fld (z_F.mono F7 rfl)) (Nat.le_refl _) (Nat.le_refl _) (Nat.le_refl _) (Nat.le_refl _) (Nat.le_refl _) (Nat.le_refl _)
  have h7 := h5.tn (X57 0 0 C4 L4 W4) (z_F.tr (z_F.mono F6 rfl) (z_F.mono F7 rfl)) (by rw [F7.2.1 17 rfl]; exact t61) hT4
  have X47 : ∀ lo n, h_fr lo n C4 L4 W4 T4 R Γ.length s4 s7 := fun lo n => (h_fr.fld (z_F.mono f5 rfl)).tr (X57 lo n C4 L4 W4).1 (Nat.le_refl _) (Nat.le_refl _) (Nat.le_refl _) (Nat.le_refl _) (Nat.le_refl _) (Nat.le_refl _)
  have X07 : h_ex lo n C L W T R Γ.length s s7 := X05.tr (X57 lo n C4 L4 W4) (by omega) (by omega) (by omega) (by omega) (Nat.le_refl _) (Nat.le_refl _)
  have hFa7 : o_F s7 κ nc ka 37 Γ a τa := ((X25f.le (lo := a + 1) (n := b) (Nat.le_refl _) (Nat.le_refl _) (Nat.le_refl _) (Nat.le_refl _) (Nat.le_refl _) (Nat.le_refl _) (Nat.le_refl _) (Nat.le_refl _)).tr (X57 (a + 1) b C4 L4 W4).1 (by omega) (by omega) (by omega) (by omega) (Nat.le_refl _) (Nat.le_refl _)).F (o_F_up ka h 37 Γ a τa (by omega) hFa)
  have hτa := o_F_ok ka 37 Γ a τa (by omega) hFa7
  have hY7 : o_Y s7 κ nc (kt + 1) y2 Γ T4 (f_a τa τ) := ⟨⟨hT4, Or.inr (by rw [h7.2.2.2.2.1.1, nI_clamp (show T4 + 1 < 2 ^ 31 by omega)]; omega)⟩, Or.inr (Or.inr (Or.inr (Or.inl ⟨by rw [F7.1 40 rfl (by decide)]; exact t62, a, bt, τa, τ, ka, by rw [F7.1 41 rfl (by decide)]; exact t63, by rw [F7.1 42 rfl (by decide)]; exact t64, rfl, hFa7, (X47 0 0).Y (by omega) v1 h7.2.2.2.2.1.1 (by omega) (by omega) kt y2 _ bt τ tt2⟩)))⟩
  obtain ⟨x40, x41, x42⟩ := (X57 (a + 1) b C4 L4 W4).1.2.2.1 n (by omega) (Or.inr hbn)
  obtain ⟨kc, hctx⟩ := h7.2.2.2.2.2.2.2.2.2
  refine k_some ⟨X07, Or.inr ⟨C4, L4, W4, t4, S4, T4 + 1, y2, f_a τa τ, h7, ⟨by omega, by omega, by omega, by omega, by omega⟩, by omega, by omega, by omega, by omega, ⟨kb + 1, hn, Or.inr (Or.inr (Or.inl ⟨x40.trans (y40.trans (z40.trans ek)), b, h, τa, τ, rfl, x42.trans (y42.trans (z42.trans eb)), hbn, rfl, ⟨hτa.1, hfin⟩, hτa.2, (X47 0 0).O hOb⟩))⟩, ⟨⟨hτa.1, hfin⟩, hτa.2, hok⟩, hfinb, ⟨T4, Γ, kc, kt + 1, i71, hY7, ?_⟩, ⟨T4, kt + 1, y2, i73, hY7, by omega⟩, by omega⟩⟩
  rw [i72, (X6 0 0 0 0 0 R Γ.length).2.1, ← (X57 0 0 C4 L4 W4).2.1]
  exact hctx
