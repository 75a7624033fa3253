set_option maxHeartbeats 1000000 in
/-- an object that is no row of objects behind one another -/
theorem h_onb (κ : Nat → Std.Format) (nc M d g : Nat) (hd : 20 ≤ d) (ih : ∀ g', g = g' + 1 → h_SO κ nc M d g' ∧ h_SF κ nc M d g') (C L W t S T R lo k h w n : Nat) (Γ : List Std.Format) (s : c_S) (H : h_pre κ nc M C L W t S T R lo k g h w n Γ s) (h6 : ¬ s.1 40 n = 6) : k_ok (c_M (d + 2) 71 [v_r 34, v_i (nI n)] s) (fun σ _ => h_OP κ nc M C L W t T R lo h w n Γ s σ) := by
  obtain ⟨hs, tr, hΓ, hRw, bC, bL, bT⟩ := H
  have lt := x_T_lo tr
  have hn : n < 120000 := lt.2
  cases k with
  | zero => exact tr.elim
  | succ k =>
    obtain ⟨-, -, tr⟩ := tr
    rw [m_Rm_object, e_Rm_object_0, if_neg (by rw [hs.1.2.1]; decide), c_rg_nI (by omega) (by decide), nI_clamp (show n < 2 ^ 31 by omega)]
    rcases tr with (e | e) | ⟨e | e, a, b, g', h', w1, w2, q1, q0, q2, q3, q4, q5, q6, q7, q8⟩ | ⟨e, -⟩
    · rw [if_neg (by rw [e]; decide), if_neg (by rw [e]; decide), if_neg (by rw [e]; decide), if_neg (by rw [e]; decide), if_neg (by rw [e]; decide), if_neg (by rw [e]; decide)]
      refine k_bd (h_find (d + 1) (by omega) n hn s hs (by omega) (by omega) e) (fun s1 x1 g1 => ?_)
      obtain ⟨X1, D1 | ⟨h1, hk⟩⟩ := g1
      · rw [m_Rm_name, e_Rm_name_0, if_pos D1.1.2.1, c_bd_some]
        exact k_some ⟨X1.le (by omega) (Nat.le_refl _) (Nat.le_refl _) (Nat.le_refl _) (Nat.le_refl _) (Nat.le_refl _) (Nat.le_refl _) (Nat.le_refl _), Or.inl D1⟩
      · refine k_bd (h_name (d + 1) (by omega) h w lo n hn (by omega) s1 h1 (by omega) (by omega) (by omega) hk) (fun s2 x2 g2 => k_some ?_)
        obtain ⟨X2, g2⟩ := g2
        refine ⟨(X1.le (by omega) (Nat.le_refl _) (Nat.le_refl _) (Nat.le_refl _) (Nat.le_refl _) (Nat.le_refl _) (Nat.le_refl _) (Nat.le_refl _)).tr X2 (Nat.le_refl _) (Nat.le_refl _) (Nat.le_refl _) (Nat.le_refl _) (Nat.le_refl _) (Nat.le_refl _), ?_⟩
        rcases g2 with D2 | ⟨C', L', W', t', S', T', y1, τ, z1, ⟨z2, z3, z4, z5, z6⟩, z7, z8, z9, z10, z11⟩
        · exact Or.inl D2
        · exact Or.inr ⟨C', L', W', t', S', T', y1, τ, z1, ⟨z2, z3, z4, z5, by omega⟩, z7, z8, z9, by omega, z11⟩
    · obtain ⟨p, hp, ep⟩ := (hs.1.1.2.2 n).1
      rw [if_pos e, c_rg_nI (by omega) (by decide), ep]
      exact k_mono (h_sw (d + 1) (by omega) p n hp hn s hs (by omega) lo n) (fun σ r g => ⟨g.1, Or.inl g.2⟩)
    · subst q0
      obtain ⟨hO, hF⟩ := ih g' q1
      rw [if_neg (by rw [e]; decide), if_neg (by rw [e]; decide), if_neg (by rw [e]; decide), if_pos e]
      exact k_bd (h_lambda κ nc M d g' (by omega) hO hF C L W t S T R lo k h' w1 w2 w n a b Γ s hs hn e q3 q4 q5 q6 q2 q7 q8 hΓ hRw bC bL bT) (fun σ r g => k_some g)
    · obtain ⟨p, hp, ep⟩ := (hs.1.1.2.2 n).2.1
      rw [if_neg (by rw [e]; decide), if_neg (by rw [e]; decide), if_neg (by rw [e]; decide), if_neg (by rw [e]; decide), if_pos e, c_rg_nI (by omega) (by decide), ep]
      exact k_mono (h_sw (d + 1) (by omega) p n hp hn s hs (by omega) lo n) (fun σ r g => ⟨g.1, Or.inl g.2⟩)
    · exact absurd e h6
theorem h_push {C L W T R b : Nat} {x : Int32} {s : c_S} : (∀ lo n, h_ex lo n C L W T R b s (c_put (c_put s 66 R x) 34 59 (nI (R + 1)))) ∧ z_F [66] [59] [] s (c_put (c_put s 66 R x) 34 59 (nI (R + 1))) ∧ (c_put (c_put s 66 R x) 34 59 (nI (R + 1))).1 66 R = x ∧ (c_put (c_put s 66 R x) 34 59 (nI (R + 1))).1 34 59 = nI (R + 1) := by
  have f : z_F [66] [59] [] s (c_put (c_put s 66 R x) 34 59 (nI (R + 1))) := z_F.puf (z_F.put z_F.rf rfl (by decide)) rfl
  refine ⟨fun lo n => ⟨⟨z_F.mono f rfl, ⟨o_ag.of f rfl, fun h _ => by rw [f.1 53 rfl (by decide), f.1 54 rfl (by decide)]; exact ⟨rfl, rfl⟩, fun h _ => by rw [f.1 55 rfl (by decide), f.1 56 rfl (by decide)]; exact ⟨rfl, rfl⟩, fun h _ => by rw [f.1 59 rfl (by decide), f.1 60 rfl (by decide)]; exact ⟨rfl, rfl⟩⟩, fun i _ _ => by rw [f.1 40 rfl (by decide), f.1 41 rfl (by decide), f.1 42 rfl (by decide)]; exact ⟨rfl, rfl, rfl⟩, fun i _ => by rw [f.1 64 rfl (by decide), f.1 65 rfl (by decide)]; exact ⟨rfl, rfl⟩, fun i hi => by rw [c_put_off (by decide), c_put_get, if_neg (by omega)]⟩, f.2.1 54 rfl, f.2.1 55 rfl⟩, f, by rw [c_put_off (by decide), c_put_same], c_put_same⟩
theorem h_S.row {κ : Nat → Std.Format} {nc M C L W t S T R R' T0 R0 lo n : Nat} {Γ : List Std.Format} {s σ : c_S} (h : h_S κ nc M C L W t S T R Γ s) (x : h_ex lo n C L W T0 R0 Γ.length s σ) (f : z_F [66] [59] [] s σ) (e : σ.1 34 59 = nI R') : h_S κ nc M C L W t S T R' Γ σ := by
  obtain ⟨⟨a1, a2, m, a3, a4⟩, ⟨b1, b2, b3, b4, b5⟩, c, d, ⟨e1, e2⟩, f1, -, -⟩ := id h
  exact h.to x (Nat.le_refl _) (Nat.le_refl _) (Nat.le_refl _) b5 (by rw [f.2.1 9 rfl]; exact a2) (by rw [f.2.1 30 rfl]; exact b1) (by rw [f.2.1 33 rfl]; exact b2) (by rw [f.2.1 36 rfl]; exact b3) (by rw [f.2.1 40 rfl]; exact b4) (by rw [f.2.1 42 rfl]; exact c.1) c.2 (by rw [f.2.1 41 rfl]; exact d.1) d.2 (by rw [f.2.1 17 rfl]; exact e1) e2 e
theorem h_R.mv {κ : Nat → Std.Format} {nc C L W T R b h w y1 n lo m : Nat} {Γ : List Std.Format} {τ : Std.Format} {s σ : c_S} (hr : h_R κ nc C L W h w y1 Γ n τ s) (x : h_fr lo m C L W T R b s σ) (hm : m < 120000) (e1 : s.1 34 17 = nI T) (hT : T ≤ 136000) (f : ∀ j, j ≠ 59 → σ.1 34 j = s.1 34 j) : h_R κ nc C L W h w y1 Γ n τ σ := by
  obtain ⟨⟨ka, hOa⟩, hok0, hfin0, ⟨na, Γa, k3, ky, is1, is2, is3⟩, ⟨bt, kt, y2, tt1, tt2, tt3⟩, hy0⟩ := hr
  have e2 : σ.1 34 17 = nI T := (f 17 (by decide)).trans e1
  exact ⟨⟨ka, x.O hOa⟩, hok0, hfin0, ⟨na, Γa, k3, ky, (f 60 (by decide)).trans is1, x.Y hm e1 e2 (Nat.le_refl _) hT ky y1 Γa na τ is2, by rw [f 61 (by decide)]; exact x.W is3 (Nat.le_refl _) (Nat.le_refl _) (Nat.le_refl _) (Nat.le_refl _)⟩, ⟨bt, kt, y2, (f 62 (by decide)).trans tt1, x.Y hm e1 e2 (Nat.le_refl _) hT kt y2 Γ bt τ tt2, tt3⟩, hy0⟩
/-- a fault: the rows are taken off -/
theorem h_53D (d : Nat) {M : Nat} (R0 : Nat) (h0 : R0 ≤ 700) : ∀ (R : Nat) (s : c_S), R ≤ 700 → s.1 34 59 = nI R → h_D M s → k_ok (b_Rm_objectBehind_53 (c_M d) (nI R0) s) (fun σ _ => z_F [] [59] [] s σ ∧ h_D M σ)
  | 0, s, hR, e, h => by
    rw [e_Rm_objectBehind_53, e, if_neg (nI_nlt (by omega) (by omega))]
    exact k_some ⟨z_F.rf, h⟩
  | R + 1, s, hR, e, h => by
    rw [e_Rm_objectBehind_53, e]
    by_cases hlt : R0 < R + 1
    · rw [if_pos (nI_lt hlt (by omega)), if_neg (x_gt h.1), nI_pred]
      have f : z_F [] [59] [] s (c_put s 34 59 (nI R)) := z_F.puf z_F.rf rfl
      have h' : h_D M (c_put s 34 59 (nI R)) := ⟨h.1.of f rfl, by rw [f.2.1 41 rfl]; exact h.2.1, R, by omega, c_put_same⟩
      exact k_mono (h_53D d R0 h0 R _ (by omega) c_put_same h') (fun σ r g => ⟨z_F.tr f g.1, g.2⟩)
    · rw [if_neg (nI_nlt (by omega) (by omega))]
      exact k_some ⟨z_F.rf, h⟩
set_option maxHeartbeats 2000000 in
/-- objects behind one another -/
theorem h_chain (κ : Nat → Std.Format) (nc M d g R0 : Nat) (hd : 420 ≤ d) (ih : ∀ g' d', g = g' + 1 → d ≤ d' → h_SO κ nc M d' g' ∧ h_SF κ nc M d' g') (h : Nat) (Γ : List Std.Format) (P : c_S → Int32 → Prop) : ∀ (k C L W t S T R lo w n : Nat) (s : c_S), R0 ≤ R → h_pre κ nc M C L W t S T R lo k g h w n Γ s → (∀ σ, h_OP κ nc M C L W t T R lo h w n Γ s σ → k_ok (b_Rm_objectBehind_53 (c_M (d + 2)) (nI R0) σ) P) → k_ok (b_Rm_objectBehind_7 (c_M (d + 2)) (nI n) (nI R0) s) P
  | 0, _, _, _, _, _, _, _, _, _, _, _, _, H, _ => H.2.1.elim
  | k + 1, C, L, W, t, S, T, R, lo, w, n, s, hR0, H, hK => by
    obtain ⟨hs, tr, hΓ, hRw, bC, bL, bT⟩ := id H
    have lt := x_T_lo tr
    have hn : n < 120000 := lt.2
    rw [e_Rm_objectBehind_7, c_rg_nI (by omega) (by decide), nI_clamp (show n < 2 ^ 31 by omega)]
    by_cases h6 : s.1 40 n = 6
    · rw [if_pos h6]
      obtain ⟨-, -, tr⟩ := id tr
      rcases tr with (e | e) | ⟨e | e, -⟩ | ⟨-, a, b, g', w1, w2, q1, q2, q3, q4, q5, ⟨q6, -⟩, q7, q8⟩
      · rw [e] at h6; exact absurd h6 (by decide)
      · rw [e] at h6; exact absurd h6 (by decide)
      · rw [e] at h6; exact absurd h6 (by decide)
      · rw [e] at h6; exact absurd h6 (by decide)
      have la := x_T_lo q7
      have lb := x_T_lo q8
      have mm := h_mul (h := h) (w1 := w1) (w2 := w2) (w := w) (by omega)
      have hT0 := hs.2.2.2.2.1
      rw [hs.2.2.2.2.2.1, c_rg_nI (by omega) (by decide), c_rg_nI (by omega) (by decide), nI_clamp (show R < 2 ^ 31 by omega), nI_1, q3]
      obtain ⟨X1, f1, r1, r2⟩ := h_push (C := C) (L := L) (W := W) (T := T) (R := R) (b := Γ.length) (x := nI n) (s := s)
      generalize c_put (c_put s 66 R (nI n)) 34 59 (nI (R + 1)) = s1 at X1 f1 r1 r2 ⊢
      have h1 := hs.row (X1 0 0) f1 r2
      have tr1 : x_T s1 lo k g h w1 a := (X1 (a + 1) 0).1.T hT0.2.1 q7 (by omega)
      refine h_chain κ nc M d g R0 hd ih h Γ P k C L W t S T (R + 1) lo w1 a s1 (by omega) ⟨h1, tr1, hΓ, by omega, by omega, by omega, by omega⟩ (fun σ g1 => ?_)
      obtain ⟨X2, ans⟩ := g1
      have X2' : h_ex lo a C L W T R Γ.length s1 σ := X2.le (Nat.le_refl _) (Nat.le_refl _) (Nat.le_refl _) (Nat.le_refl _) (Nat.le_refl _) (Nat.le_refl _) (by omega) (Nat.le_refl _)
      have X02 : h_ex lo a C L W T R Γ.length s σ := (X1 lo a).tr X2' (Nat.le_refl _) (Nat.le_refl _) (Nat.le_refl _) (Nat.le_refl _) (Nat.le_refl _) (Nat.le_refl _)
      rcases ans with D | ⟨C2, L2, W2, t2, S2, T2, y1, τ, h2, ⟨n1, n2, n3, n4, n5⟩, cC, cL, cT, cW, hr⟩
      · exact hK σ ⟨X02.le (Nat.le_refl _) (by omega) (Nat.le_refl _) (Nat.le_refl _) (Nat.le_refl _) (Nat.le_refl _) (Nat.le_refl _) (Nat.le_refl _), Or.inl D⟩
      · rw [e_Rm_objectBehind_53, h2.2.2.2.2.2.1, if_pos (nI_lt (by omega) (by omega)), if_pos h2.1.2.1, nI_pred, c_rg_nI (by omega) (by decide), nI_clamp (show R < 2 ^ 31 by omega), (X2.1.2.2.2.2 R (by omega)).trans r1]
        have f3 : z_F [] [59] [] σ (c_put σ 34 59 (nI R)) := z_F.puf z_F.rf rfl
        have X3 : ∀ lo n, h_ex lo n C2 L2 W2 T2 R Γ.length σ (c_put σ 34 59 (nI R)) := fun lo n => h_ex.fld (z_F.mono f3 rfl)
        have h3 : h_S κ nc M C2 L2 W2 t2 S2 T2 R Γ (c_put σ 34 59 (nI R)) := h2.row (X3 0 0) (z_F.mono f3 rfl) c_put_same
        have hr3 := hr.mv (X3 0 0).1 (by omega) h2.2.2.2.2.1.1 h2.2.2.2.2.1.2.2 (fun j hj => by rw [c_put_get, if_neg hj])
        generalize c_put σ 34 59 (nI R) = s3 at f3 X3 h3 hr3 ⊢
        have X03 : h_ex lo a C L W T R Γ.length s s3 := X02.tr (X3 lo a) n1 n2 n3 n4 (Nat.le_refl _) (Nat.le_refl _)
        obtain ⟨z40, z41, z42⟩ := X03.1.2.2.1 n (by omega) (Or.inr q5)
        have hT2 := h2.2.2.2.2.1
        obtain ⟨hO, -⟩ := ih g' (d + 1) q1 (by omega)
        refine k_bd (h_one κ nc M (d + 1) g' (by omega) hO C2 L2 W2 t2 S2 T2 R k h w1 w2 y1 n a b Γ τ s3 h3 hn (z40.trans h6) (z41.trans q3) (z42.trans q4) q5 q6 (X03.1.T hT0.2.1 q8 (by omega)) hΓ (by omega) (by omega) hr3 (by omega) (by omega) (by omega)) (fun s4 x4 g4 => ?_)
        obtain ⟨X4, ans4⟩ := g4
        have X04 : h_ex lo n C L W T R Γ.length s s4 := (X03.le (Nat.le_refl _) (by omega) (Nat.le_refl _) (Nat.le_refl _) (Nat.le_refl _) (Nat.le_refl _) (Nat.le_refl _) (Nat.le_refl _)).tr (X4.le (by omega) (by omega) (Nat.le_refl _) (Nat.le_refl _) (Nat.le_refl _) (Nat.le_refl _) (Nat.le_refl _) (Nat.le_refl _)) n1 n2 n3 n4 (Nat.le_refl _) (Nat.le_refl _)
        refine hK s4 ⟨X04, ?_⟩
        rcases ans4 with D4 | ⟨C4, L4, W4, t4, S4, T4, y4, τ4, h4, ⟨o1, o2, o3, o4, o5⟩, dC, dL, dT, dW, hr4⟩
        · exact Or.inl D4
        · refine Or.inr ⟨C4, L4, W4, t4, S4, T4, y4, τ4, h4, ⟨by omega, by omega, by omega, by omega, by omega⟩, by omega, by omega, by omega, by omega, ?_⟩
          obtain ⟨v1, v2, v3, v4, ⟨bt, kt, y2, tt1, tt2, tt3⟩, v6⟩ := hr4
          exact ⟨v1, v2, v3, v4, ⟨bt, kt, y2, tt1, tt2, by omega⟩, by omega⟩
    · rw [if_neg h6]
      exact k_bd (h_onb κ nc M d g (by omega) (fun g' e => ih g' d e (Nat.le_refl _)) C L W t S T R lo (k + 1) h w n Γ s H h6) (fun σ r g => hK σ g)
/-- an object is checked -/
theorem h_SO_step (κ : Nat → Std.Format) (nc M d g : Nat) (hd : 420 ≤ d) (ih : ∀ g' d', g = g' + 1 → d ≤ d' → h_SO κ nc M d' g' ∧ h_SF κ nc M d' g') : h_SO κ nc M (d + 4) g := by
  intro C L W t S T R lo k h w n Γ s H
  by_cases h6 : s.1 40 n = 6
  · obtain ⟨hs, tr, hΓ, hRw, -⟩ := id H
    have lt := x_T_lo tr
    rw [m_Rm_object, e_Rm_object_0, if_neg (by rw [hs.1.2.1]; decide), c_rg_nI (by omega) (by decide), nI_clamp (show n < 2 ^ 31 by omega), if_neg (by rw [h6]; decide), if_neg (by rw [h6]; decide), if_neg (by rw [h6]; decide), if_neg (by rw [h6]; decide), if_neg (by rw [h6]; decide), if_pos h6, m_Rm_objectBehind, e_Rm_objectBehind_0, hs.2.2.2.2.2.1]
    refine k_bd (h_chain κ nc M d g R hd ih h Γ (fun σ _ => h_OP κ nc M C L W t T R lo h w n Γ s σ) k C L W t S T R lo w n s (Nat.le_refl _) H (fun σ g => ?_)) (fun σ r g => k_some g)
    obtain ⟨X, ans⟩ := g
    rcases ans with D | hl
    · obtain ⟨-, -, R', hR', eR'⟩ := id D
      exact k_mono (h_53D (d + 2) R (by omega) R' σ hR' eR' D) (fun σ' r g => ⟨X.tr (h_ex.fld (z_F.mono g.1 rfl)) (Nat.le_refl _) (Nat.le_refl _) (Nat.le_refl _) (Nat.le_refl _) (Nat.le_refl _) (Nat.le_refl _), Or.inl g.2⟩)
    · obtain ⟨C2, L2, W2, t2, S2, T2, y1, τ, h2, rest⟩ := hl
      rw [e_Rm_objectBehind_53, h2.2.2.2.2.2.1, if_neg (nI_nlt (Nat.le_refl _) (by omega))]
      exact k_some ⟨X, Or.inr ⟨C2, L2, W2, t2, S2, T2, y1, τ, h2, rest⟩⟩
  · exact h_onb κ nc M (d + 2) g (by omega) (fun g' e => ih g' (d + 2) e (by omega)) C L W t S T R lo k h w n Γ s H h6
