theorem nI_ne {a b : Nat} (h : a ≠ b) (ha : a < 2 ^ 31) (hb : b < 2 ^ 31) : ¬ nI a = nI b := fun e => h ((nI_eq ha hb).mp e)
set_option maxHeartbeats 2000000 in
/-- the head of a family with objects -/
theorem h_fhead (κ : Nat → Std.Format) (nc M d R0 : Nat) (hd : 10 ≤ d) (h : Nat) (Γ : List Std.Format) (P : c_S → Int32 → Prop) (C L W t S T R lo w n : Nat) (s : c_S) (hs : h_S κ nc M C L W t S T R Γ s) (hR : R ≤ 700) (hΓ : Γ.length ≤ 38) (hn : n < 120000) (hlo : lo ≤ n) (ek : s.1 40 n = 0 ∨ s.1 40 n = 1) (hP : ∀ σ, h_ex lo n C L W T R Γ.length s σ → h_D M σ → P σ 0) (hK : ∀ i4 i5 σ, h_QP κ nc M C L W t T R lo h w n Γ i4 i5 s σ → k_ok (b_Rm_familyBehind_178 (c_M d) (nI n) (nI R0) i4 i5 σ) P) : k_ok (b_Rm_familyBehind_89 (c_M d) (nI n) (nI R0) s) P := by
  rw [e_Rm_familyBehind_89, c_rg_nI (by omega) (by decide), nI_clamp (show n < 2 ^ 31 by omega)]
  obtain ⟨p, hp, ep⟩ := (hs.1.1.2.2 n).1
  rcases ek with e | e
  · rw [if_neg (by rw [e]; decide)]
    have dead : ∀ σ, h_ex lo n C L W T R Γ.length s σ → h_D M σ → k_ok (b_Rm_familyBehind_154 (c_M d) (nI n) (nI R0) σ) P := fun σ X D => by
      rw [e_Rm_familyBehind_154, if_pos D.1.2.1]
      exact k_some (hP σ X D)
    refine k_bd (h_find d (by omega) n hn s hs hR hΓ e) (fun s1 x1 g1 => ?_)
    obtain ⟨X1, g1⟩ := g1
    have X1 : h_ex lo n C L W T R Γ.length s s1 := X1.le hlo (Nat.le_refl _) (Nat.le_refl _) (Nat.le_refl _) (Nat.le_refl _) (Nat.le_refl _) (Nat.le_refl _) (Nat.le_refl _)
    rcases g1 with D1 | ⟨h1, hk⟩
    · rw [if_neg (x_gt D1.1)]
      exact dead s1 X1 D1
    · obtain ⟨d, rfl⟩ : ∃ e, d = e + 1 := ⟨d - 1, by omega⟩
      rw [if_pos h1.1.2.1, m_Rm_isFamilyNode, e_Rm_isFamilyNode_0, c_rg_nI (by omega) (by decide), nI_clamp (show n < 2 ^ 31 by omega)]
      have bad : k_ok (c_rg (nI n) 136000 (c_bd (c_M (d + 1) 25 [v_r 34, v_i 6, v_i (s1.1 43 n)] s1) fun s5 _ => b_Rm_familyBehind_154 (c_M (d + 1)) (nI n) (nI R0) s5)) P := by
        obtain ⟨q, hq, eq⟩ := (h1.1.1.2.2 n).1
        rw [c_rg_nI (by omega) (by decide), eq]
        exact k_bd (h_wrong (d + 1) (by omega) 6 (by decide) q hq s1 h1 hR) (fun σ r g => dead σ (X1.tr (h_ex.fld (z_F.mono g.1 rfl)) (Nat.le_refl _) (Nat.le_refl _) (Nat.le_refl _) (Nat.le_refl _) (Nat.le_refl _) (Nat.le_refl _)) g.2)
      rcases hk with ⟨i, hi, k1, k2⟩ | ⟨c, hc, k1, k2⟩
      · rw [if_neg (by rw [k1]; decide), c_bd_some, if_pos rfl]
        exact bad
      · obtain ⟨-, ⟨b1, b2, b3, b4, b5⟩, -, -, ⟨e1, e2⟩, -, ⟨w1, w2, w3⟩, -⟩ := id h1
        have hnc := w1.1
        rw [if_pos k1, c_rg_nI (by omega) (by decide), k2, c_rg_nI (by omega) (by decide), nI_clamp (show c < 2 ^ 31 by omega)]
        rcases w2 c hc with ⟨z1, -⟩ | ⟨z1, τs, z2⟩
        · rw [if_pos z1, c_bd_some, if_pos rfl]
          exact bad
        · rw [if_neg z1, c_bd_some, if_neg (by decide), e_Rm_familyBehind_154, if_neg (by rw [h1.1.2.1]; decide), c_rg_nI (by omega) (by decide), nI_clamp (show n < 2 ^ 31 by omega), k2, c_rg_nI (by omega) (by decide), nI_clamp (show c < 2 ^ 31 by omega)]
          obtain ⟨v1, ⟨t5, k5, v2, v3⟩, -⟩ := w1.2 c hc
          rw [v2]
          have hmul : 0 ≤ (h + 2) * w := Nat.zero_le _
          refine hK (nI t5) (-1) s1 ⟨X1, Or.inr ⟨C, L, W, t + 1, S + 1, T, h1, ⟨Nat.le_refl _, Nat.le_refl _, Nat.le_refl _, Nat.le_refl _, by omega⟩, by omega, by omega, by omega, by omega, τs, c, ⟨1, ⟨hn, Or.inr (Or.inl ⟨k1, c, k2, hc, z2.symm⟩)⟩, Or.inl ⟨k1, k2⟩⟩, hc, by rw [← z2]; exact v1.2, t5, [], 1, 1, rfl, ?_, rfl⟩⟩
          rw [← z2]
          exact o_F_Y (Nat.le_refl _) v3
  · rw [if_pos e, c_rg_nI (by omega) (by decide), ep]
    obtain ⟨σ, r, es, g⟩ := h_sw d (by omega) p n hp hn s hs hR lo n
    have hr : r = 0 ∨ True := Or.inr trivial
    refine k_bd (h_stepAt d (by omega) p hp s hs hR) (fun s1 x1 g1 => ?_)
    obtain ⟨f1, D1 | h1⟩ := g1
    · rw [c_rg_nI (by omega) (by decide), x_wrongD d (by omega) _ _ s1 D1.1, c_bd_some]
      exact k_some (hP s1 (h_ex.fld (z_F.mono f1 rfl)) D1)
    · rw [c_rg_nI (by omega) (by decide)]
      obtain ⟨q, hq, eq⟩ := (h1.1.1.2.2 n).1
      rw [eq]
      exact k_bd (h_wrong d (by omega) 6 (by decide) q hq s1 h1 hR) (fun σ r g => k_some (hP σ (h_ex.fld (z_F.tr (z_F.mono f1 rfl) (z_F.mono g.1 rfl))) g.2))
set_option maxHeartbeats 2000000 in
/-- objects behind a family -/
theorem h_fchain (κ : Nat → Std.Format) (nc M d g R0 n0 : Nat) (hd : 420 ≤ d) (ih : ∀ g', g = g' + 1 → h_SO κ nc M d g') (h : Nat) (Γ : List Std.Format) (hn0 : n0 < 120000) (P : c_S → Int32 → Prop) : ∀ (k C L W t S T R lo w n : Nat) (s : c_S), R0 ≤ R → h_pre κ nc M C L W t S T R lo k g h w n Γ s → (n < n0 ∧ x_hb s n ∨ n = n0 ∧ s.1 40 n = 6) → (∀ σ, h_ex lo n C L W T R Γ.length s σ → h_D M σ → P σ 0) → (∀ i2 i4 i5 σ, i2 < 120000 → h_QP κ nc M C L W t T R lo h w n Γ i4 i5 s σ → k_ok (b_Rm_familyBehind_178 (c_M d) (nI i2) (nI R0) i4 i5 σ) P) → k_ok (b_Rm_familyBehind_7 (c_M d) (nI n0) (nI n) (nI R0) s) P
  | 0, _, _, _, _, _, _, _, _, _, _, _, _, H, _, _, _ => H.2.1.elim
  | k + 1, C, L, W, t, S, T, R, lo, w, n, s, hR0, H, hb, hP, hK => by
    obtain ⟨hs, tr, hΓ, hRw, bC, bL, bT⟩ := id H
    have lt := x_T_lo tr
    have hn : n < 120000 := lt.2
    have hT0 := hs.2.2.2.2.1
    rw [e_Rm_familyBehind_7, c_rg_nI (by omega) (by decide), nI_clamp (show n < 2 ^ 31 by omega)]
    by_cases h6 : s.1 40 n = 6
    · rw [if_pos h6]
      have push : k_ok (b_Rm_familyBehind_32 (c_M d) (nI n0) (nI n) (nI R0) s) P := by
        obtain ⟨-, -, tr⟩ := id tr
        rcases tr with (e | e) | ⟨e | e, -⟩ | ⟨-, a, b, g', w1, w2, q1, q2, q3, q4, q5, ⟨q6, qh⟩, q7, q8⟩
        · rw [e] at h6; exact absurd h6 (by decide)
        · rw [e] at h6; exact absurd h6 (by decide)
        · rw [e] at h6; exact absurd h6 (by decide)
        · rw [e] at h6; exact absurd h6 (by decide)
        have la := x_T_lo q7
        have lb := x_T_lo q8
        have mm := h_mul (h := h) (w1 := w1) (w2 := w2) (w := w) (by omega)
        rw [e_Rm_familyBehind_32, hs.2.2.2.2.2.1, c_rg_nI (by omega) (by decide), c_rg_nI (by omega) (by decide), nI_clamp (show R < 2 ^ 31 by omega), nI_clamp (show n < 2 ^ 31 by omega), nI_1, q3]
        obtain ⟨X1, f1, r1, r2⟩ := h_push (C := C) (L := L) (W := W) (T := T) (R := R) (b := Γ.length) (x := nI n) (s := s)
        generalize c_put (c_put s 66 R (nI n)) 34 59 (nI (R + 1)) = s1 at X1 f1 r1 r2 ⊢
        have h1 := hs.row (X1 0 0) f1 r2
        have tr1 : x_T s1 lo k g h w1 a := (X1 (a + 1) 0).1.T hT0.2.1 q7 (by omega)
        have hb1 : x_hb s1 a := fun hk => by
          rw [f1.1 45 rfl (by decide)]
          rw [f1.1 40 rfl (by decide)] at hk
          exact qh hk
        have nn : n ≤ n0 := by rcases hb with ⟨hb, -⟩ | ⟨hb, -⟩ <;> omega
        refine h_fchain κ nc M d g R0 n0 hd ih h Γ hn0 P k C L W t S T (R + 1) lo w1 a s1 (by omega) ⟨h1, tr1, hΓ, by omega, by omega, by omega, by omega⟩ (Or.inl ⟨by omega, hb1⟩) (fun σ X2 D2 => ?_) (fun i2 i4 i5 σ hi2 g2 => ?_)
        · exact hP σ (((X1 lo a).tr (X2.le (Nat.le_refl _) (Nat.le_refl _) (Nat.le_refl _) (Nat.le_refl _) (Nat.le_refl _) (Nat.le_refl _) (by omega) (Nat.le_refl _)) (Nat.le_refl _) (Nat.le_refl _) (Nat.le_refl _) (Nat.le_refl _) (Nat.le_refl _) (Nat.le_refl _)).le (Nat.le_refl _) (by omega) (Nat.le_refl _) (Nat.le_refl _) (Nat.le_refl _) (Nat.le_refl _) (Nat.le_refl _) (Nat.le_refl _)) D2
        obtain ⟨X2, ans⟩ := g2
        have X02 : h_ex lo a C L W T R Γ.length s σ := (X1 lo a).tr (X2.le (Nat.le_refl _) (Nat.le_refl _) (Nat.le_refl _) (Nat.le_refl _) (Nat.le_refl _) (Nat.le_refl _) (by omega) (Nat.le_refl _)) (Nat.le_refl _) (Nat.le_refl _) (Nat.le_refl _) (Nat.le_refl _) (Nat.le_refl _) (Nat.le_refl _)
        have X02n : h_ex lo n C L W T R Γ.length s σ := X02.le (Nat.le_refl _) (by omega) (Nat.le_refl _) (Nat.le_refl _) (Nat.le_refl _) (Nat.le_refl _) (Nat.le_refl _) (Nat.le_refl _)
        rcases ans with D | ⟨C2, L2, W2, t2, S2, T2, h2, ⟨n1, n2, n3, n4, n5⟩, cC, cL, cT, cW, hq⟩
        · rw [h_178D d _ _ _ _ σ D]
          exact k_some (hP σ X02n D)
        obtain ⟨z40, z41, z42⟩ := X02.1.2.2.1 n (by omega) (Or.inr q5)
        have hT2 := h2.2.2.2.2.1
        have up : ∀ σ', h_ex (a + 1) b C2 L2 W2 T2 R Γ.length σ σ' → h_ex lo n C L W T R Γ.length s σ' := fun σ' X => X02n.tr (X.le (by omega) (by omega) (Nat.le_refl _) (Nat.le_refl _) (Nat.le_refl _) (Nat.le_refl _) (Nat.le_refl _) (Nat.le_refl _)) n1 n2 n3 n4 (Nat.le_refl _) (Nat.le_refl _)
        refine h_fone κ nc M d g' (by omega) (ih g' q1) C2 L2 W2 t2 S2 T2 R R0 k h w2 n a b Γ (nI i2) i4 i5 P σ h2 hR0 ((X2.1.2.2.2.2 R (by omega)).trans r1) hn (z40.trans h6) (z41.trans q3) (z42.trans q4) q5 q6 (X02.1.T hT0.2.1 q8 (by omega)) hΓ (by omega) hq (by omega) (by omega) (by omega) (fun σ' X D => hP σ' (up σ' X) D) (fun j4 j5 σ' X ans => hK i2 j4 j5 σ' hi2 ⟨up σ' X, ?_⟩)
        rcases ans with D | ⟨C4, L4, W4, t4, S4, T4, h4, ⟨o1, o2, o3, o4, o5⟩, dC, dL, dT, dW, hq4⟩
        · exact Or.inl D
        · exact Or.inr ⟨C4, L4, W4, t4, S4, T4, h4, ⟨by omega, by omega, by omega, by omega, by omega⟩, by omega, by omega, by omega, by omega, hq4⟩
      refine k_if (fun _ => push) (fun hne => ?_)
      rw [c_rg_nI (by omega) (by decide)]
      refine k_if (fun _ => push) (fun hbr => ?_)
      rw [e_Rm_familyBehind_62, c_rg_nI (by omega) (by decide), nI_clamp (show n < 2 ^ 31 by omega), if_neg hbr, if_neg hne, c_rg_nI (by omega) (by decide)]
      rcases (hs.1.1.2.2 n).2.2.1 with e | ⟨q, hq, e⟩
      · rw [e] at hbr; exact absurd (by decide) hbr
      · rw [e]
        exact k_bd (h_wrong d (by omega) 6 (by decide) q hq s hs (by omega)) (fun σ r g => k_some (hP σ (h_ex.fld (z_F.mono g.1 rfl)) g.2))
    · rw [if_neg h6, e_Rm_familyBehind_62, c_rg_nI (by omega) (by decide), nI_clamp (show n < 2 ^ 31 by omega)]
      rcases hb with ⟨hlt, hb⟩ | ⟨-, hb⟩
      · refine k_if (fun hbr => ?_) (fun hbr => ?_)
        · have ek : s.1 40 n = 0 ∨ s.1 40 n = 1 := by
            obtain ⟨-, -, tr⟩ := id tr
            rcases tr with e | ⟨e, -⟩ | ⟨e, -⟩
            · exact e
            · exact absurd hbr (hb e)
            · exact absurd e h6
          exact h_fhead κ nc M d R0 (by omega) h Γ P C L W t S T R lo w n s hs (by omega) (by omega) hn (by omega) ek hP (fun i4 i5 σ g => hK n i4 i5 σ hn g)
        · rw [if_neg (nI_ne (by omega) (by omega) (by omega)), c_rg_nI (by omega) (by decide)]
          rcases (hs.1.1.2.2 n).2.2.1 with e | ⟨q, hq, e⟩
          · rw [e] at hbr; exact absurd (by decide) hbr
          · rw [e]
            exact k_bd (h_wrong d (by omega) 6 (by decide) q hq s hs (by omega)) (fun σ r g => k_some (hP σ (h_ex.fld (z_F.mono g.1 rfl)) g.2))
      · exact absurd hb h6
set_option maxHeartbeats 1000000 in
/-- a family with its objects -/
theorem h_fb (κ : Nat → Std.Format) (nc M d g : Nat) (hd : 420 ≤ d) (ih : ∀ g', g = g' + 1 → h_SO κ nc M d g') (C L W t S T R lo k h w n : Nat) (Γ : List Std.Format) (ok : Int32) (s : c_S) (H : h_pre κ nc M C L W t S T R lo k g h w n Γ s) (h6 : s.1 40 n = 6) : k_ok (c_M (d + 1) 69 [v_r 34, v_i (nI n)] s) (fun σ _ => h_FP κ nc M C L W t T R lo h w n Γ ok s σ) := by
  obtain ⟨hs, tr, hΓ, hRw, bC, bL, bT⟩ := id H
  have lt := x_T_lo tr
  have hn : n < 120000 := lt.2
  rw [m_Rm_familyBehind, e_Rm_familyBehind_0, hs.2.2.2.2.2.1]
  refine h_fchain κ nc M d g R n hd ih h Γ hn _ k C L W t S T R lo w n s (Nat.le_refl _) H (Or.inr ⟨rfl, h6⟩) (fun σ X D => ⟨X, Or.inl D⟩) (fun i2 i4 i5 σ hi2 g => ?_)
  obtain ⟨X, ans⟩ := g
  rcases ans with D | ⟨C2, L2, W2, t2, S2, T2, h2, ⟨n1, n2, n3, n4, n5⟩, cC, cL, cT, cW, τs, c, ⟨kk, q1, q2⟩, q3, q4, a, Γ', k3, ky, rfl, q6, q7⟩
  · rw [h_178D d _ _ _ _ σ D]
    exact k_some ⟨X, Or.inl D⟩
  rw [e_Rm_familyBehind_178, h2.2.2.2.2.2.1, if_neg (nI_nlt (Nat.le_refl _) (by omega)), e_Rm_familyBehind_352, if_pos h2.1.2.1]
  refine k_bd (w_shows d (by omega) ky 0 k3 a C2 L2 Γ' (f_l τs f_t) _ σ h2.2.2.2.2.2.2.1.1 h2.2.1.1 h2.2.1.2.1 (by omega) (by omega) (by omega) q6 q7) (fun s3 x3 g3 => ?_)
  obtain ⟨C3, L3, h3, X3, c1, c2, f3, hs3⟩ := h2.sh g3
  have X03 : h_ex lo n C L W T R Γ.length s s3 := X.tr (X3 lo n) n1 n2 n3 n4 (Nat.le_refl _) (Nat.le_refl _)
  rcases hs3 with ⟨rfl, s', ρ, fa, fb, la, lb, Γf, j1, j2, j3, y', yC, yL, -⟩ | ⟨rfl, yC, yL, hat, -⟩
  · obtain ⟨p, hp, ep⟩ := (h3.1.1.2.2 i2).1
    rw [if_neg (by decide), c_rg_nI (by omega) (by decide), nI_clamp (show i2 < 2 ^ 31 by omega), ep]
    exact k_bd (h_wrong d (by omega) 4 (by decide) p hp s3 h3 (by omega)) (fun σ r g => k_some ⟨X03.tr (h_ex.fld (z_F.mono g.1 rfl)) (by omega) (by omega) (by omega) (by omega) (Nat.le_refl _) (Nat.le_refl _), Or.inl g.2⟩)
  · rw [if_pos rfl]
    have hτ := f_l_at hat
    subst hτ
    have e6 : s3.1 40 n = 6 := by
      have := (X3 0 0).1.2.1.1 n hn
      cases kk with
      | zero => exact q1.elim
      | succ kk =>
        obtain ⟨-, q1⟩ := q1
        rw [f3.1 40 rfl (by decide)]
        rcases q2 with ⟨e, -⟩ | ⟨e, -⟩
        · have l0 := X.1.2.1.1 n hn (by rw [h6]; decide)
          rw [l0.1]; exact h6
        · exact e
    exact k_some ⟨X03, Or.inr ⟨C3, L3, W2, t2, S2, T2, f_b c, h3, ⟨by omega, by omega, by omega, by omega, by omega⟩, by omega, by omega, by omega, by omega, ⟨1, hn, Or.inr (Or.inl ⟨Or.inr e6, c, kk, h, by omega, q3, rfl, (X3 0 0).1.O q1, o_h_ag (X3 0 0).1.2.1.1 kk n c hn q2⟩)⟩, fun _ => trivial⟩⟩
