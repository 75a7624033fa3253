theorem o_F_n5 {σ : c_S} {κ : Nat → Std.Format} {nc k h n : Nat} {Γ : List Std.Format} {τ : Std.Format} (hx : o_F σ κ nc k h Γ n τ) (h5 : ¬ σ.1 40 n = 5) : f_at τ := by
  cases k with
  | zero => exact hx.elim
  | succ k =>
    obtain ⟨-, hx⟩ := hx
    rcases hx with ⟨e, -⟩ | ⟨-, c, kk, hh, -, -, rfl, -⟩ | ⟨-, rfl⟩
    · exact absurd e h5
    · exact f_b_at c
    · exact f_t_at
theorem f_l_at {τs : List Std.Format} {β : Std.Format} (h : f_at (f_l τs β)) : τs = [] := by
  cases τs with
  | nil => rfl
  | cons τ τs => exact absurd rfl (h _ _)
/-- a family with some of its objects, its KIND as it is left -/
def h_FQ (κ : Nat → Std.Format) (nc C L W h : Nat) (Γ : List Std.Format) (m : Nat) (i4 i5 : Int32) (σ : c_S) : Prop := ∃ τs c, (∃ kk, o_T σ κ nc kk h Γ m (f_l τs f_t) ∧ o_h σ kk m c) ∧ c < nc ∧ f_ok (f_l τs f_t) ∧ ∃ a Γ' k3 ky, i4 = nI a ∧ o_Y σ κ nc ky 0 Γ' a (f_l τs f_t) ∧ w_W σ κ nc C L W k3 (.inr i5) Γ'
def h_QP (κ : Nat → Std.Format) (nc M C L W t T R lo h w n : Nat) (Γ : List Std.Format) (i4 i5 : Int32) (s σ : c_S) : Prop := h_ex lo n C L W T R Γ.length s σ ∧ (h_D M σ ∨ ∃ C' L' W' t' S' T', h_S κ nc M C' L' W' t' S' T' R Γ σ ∧ (C ≤ C' ∧ L ≤ L' ∧ W ≤ W' ∧ T ≤ T' ∧ t ≤ t') ∧ C' + lo ≤ C + (h + 2) * w + n + 1 ∧ L' + lo ≤ L + (h + 2) * w + n + 1 ∧ T' + lo ≤ T + n + 1 ∧ W' + t ≤ W + t' ∧ h_FQ κ nc C' L' W' h Γ n i4 i5 σ)
theorem h_178D (d : Nat) {M : Nat} (i2 i3 i4 i5 : Int32) (s : c_S) (h : h_D M s) : b_Rm_familyBehind_178 (c_M d) i2 i3 i4 i5 s = some (s, 0) := by
  have h352 : b_Rm_familyBehind_352 (c_M d) i2 i4 i5 s = some (s, 0) := by rw [e_Rm_familyBehind_352, if_neg (x_gt h.1)]
  rw [e_Rm_familyBehind_178, if_neg (x_gt h.1), h352]
  split <;> rfl
theorem h_257D (d : Nat) (hd : 1 ≤ d) {M : Nat} (i2 i3 i4 i5 : Int32) (n : Nat) (hn : n < 120000) (s : c_S) (h : h_D M s) : b_Rm_familyBehind_257 (c_M d) i2 i3 i4 i5 (nI n) s = some (s, 0) := by
  rw [e_Rm_familyBehind_257, c_rg_nI (by omega) (by decide), h_objD d hd _ s h, c_bd_some, e_Rm_familyBehind_292, if_neg (x_gt h.1), h_178D d _ _ _ _ s h]
theorem h_FQ.mv {κ : Nat → Std.Format} {nc C L W T R b h m lo n : Nat} {Γ : List Std.Format} {i4 i5 : Int32} {s σ : c_S} (q : h_FQ κ nc C L W h Γ m i4 i5 s) (x : h_fr lo n C L W T R b s σ) (hn : n < 120000) (hm : m < 120000) (e1 : s.1 34 17 = nI T) (e2 : σ.1 34 17 = nI T) (hT : T ≤ 136000) : h_FQ κ nc C L W h Γ m i4 i5 σ := by
  obtain ⟨τs, c, ⟨kk, q1, q2⟩, q3, q4, a, Γ', k3, ky, q5, q6, q7⟩ := q
  exact ⟨τs, c, ⟨kk, x.O q1, o_h_ag x.2.1.1 kk m c hm q2⟩, q3, q4, a, Γ', k3, ky, q5, x.Y hn e1 e2 (Nat.le_refl _) hT ky 0 Γ' a _ q6, x.W q7 (Nat.le_refl _) (Nat.le_refl _) (Nat.le_refl _) (Nat.le_refl _)⟩
set_option maxHeartbeats 2000000 in
/-- one object more behind a family -/
theorem h_fone (κ : Nat → Std.Format) (nc M d g : Nat) (hd : 410 ≤ d) (hO : h_SO κ nc M d g) (C L W t S T R R0 k h w2 n a b : Nat) (Γ : List Std.Format) (i2 i4 i5 : Int32) (P : c_S → Int32 → Prop) (s : c_S) (hs : h_S κ nc M C L W t S T (R + 1) Γ s) (hR0 : R0 ≤ R) (hrow : s.1 66 R = nI n) (hn : n < 120000) (ek : s.1 40 n = 6) (ea : s.1 41 n = nI a) (eb : s.1 42 n = nI b) (han : a < n) (hbn : b < n) (tb : x_T s (a + 1) k g h w2 b) (hΓ : Γ.length + h ≤ 38) (hRw : R + w2 + 1 ≤ 700) (hq : h_FQ κ nc C L W h Γ a i4 i5 s) (bC : C + (h + 2) * w2 + b + 1 ≤ 200000 + (a + 1)) (bL : L + (h + 2) * w2 + b + 1 ≤ 200000 + (a + 1)) (bT : T + b + 1 ≤ 136000 + (a + 1)) (hP : ∀ σ, h_ex (a + 1) b C L W T R Γ.length s σ → h_D M σ → P σ 0) (hK : ∀ i4 i5 σ, h_ex (a + 1) b C L W T R Γ.length s σ → (h_D M σ ∨ ∃ C' L' W' t' S' T', h_S κ nc M C' L' W' t' S' T' R Γ σ ∧ (C ≤ C' ∧ L ≤ L' ∧ W ≤ W' ∧ T ≤ T' ∧ t ≤ t') ∧ C' + (a + 1) ≤ C + (h + 2) * w2 + b + 2 ∧ L' + (a + 1) ≤ L + (h + 2) * w2 + b + 2 ∧ T' + (a + 1) ≤ T + b + 1 ∧ W' + t ≤ W + t' ∧ h_FQ κ nc C' L' W' h Γ n i4 i5 σ) → k_ok (b_Rm_familyBehind_178 (c_M d) i2 (nI R0) i4 i5 σ) P) : k_ok (b_Rm_familyBehind_178 (c_M d) i2 (nI R0) i4 i5 s) P := by
  have l2 := x_T_lo tb
  obtain ⟨p, hp, ep⟩ := (hs.1.1.2.2 n).2.1
  rw [e_Rm_familyBehind_178, hs.2.2.2.2.2.1, if_pos (nI_lt (by omega) (by omega)), if_pos hs.1.2.1, nI_pred, c_rg_nI (by omega) (by decide), nI_clamp (show R < 2 ^ 31 by omega), hrow, c_rg_nI (by omega) (by decide), nI_clamp (show n < 2 ^ 31 by omega), ep]
  have f0 : z_F [] [59] [] s (c_put s 34 59 (nI R)) := z_F.puf z_F.rf rfl
  have X0 : ∀ lo n, h_ex lo n C L W T R Γ.length s (c_put s 34 59 (nI R)) := fun lo n => h_ex.fld (z_F.mono f0 rfl)
  have h0 : h_S κ nc M C L W t S T R Γ (c_put s 34 59 (nI R)) := hs.row (X0 0 0) (z_F.mono f0 rfl) c_put_same
  generalize c_put s 34 59 (nI R) = s0 at f0 X0 h0 ⊢
  refine k_bd (h_stepAt d (by omega) p hp s0 h0 (by omega)) (fun s1 x1 g1 => ?_)
  obtain ⟨f1, g1⟩ := g1
  have X1 : ∀ lo n, h_ex lo n C L W T R Γ.length s s1 := fun lo n => (X0 lo n).tr (h_ex.fld (z_F.mono f1 rfl)) (Nat.le_refl _) (Nat.le_refl _) (Nat.le_refl _) (Nat.le_refl _) (Nat.le_refl _) (Nat.le_refl _)
  rcases g1 with D1 | h1
  · rw [if_neg (x_gt D1.1), h_257D d (by omega) _ _ _ _ n hn s1 D1]
    exact k_some (hP s1 (X1 _ _) D1)
  have hT0 := hs.2.2.2.2.1
  obtain ⟨τs, c, ⟨ka, hOa, hha⟩, hc, hok, na, Γa, k3, ky, rfl, hY, hW⟩ := hq
  rw [if_pos h1.1.2.1]
  refine k_bd (w_shows d (by omega) ky 0 k3 na C L Γa (f_l τs f_t) _ s1 h1.2.2.2.2.2.2.1.1 h1.2.1.1 h1.2.1.2.1 (by omega) (by omega) (by omega) ((X1 0 0).1.Y (by omega) hT0.1 h1.2.2.2.2.1.1 (Nat.le_refl _) (by omega) ky 0 Γa na _ hY) ((X1 0 0).1.W hW (Nat.le_refl _) (Nat.le_refl _) (Nat.le_refl _) (Nat.le_refl _))) (fun s2 x2 g2 => ?_)
  obtain ⟨C2, L2, h2, X2, c1, c2, f2, hs2⟩ := h1.sh g2
  have X02 : ∀ lo n, h_ex lo n C L W T R Γ.length s s2 := fun lo n => (X1 lo n).tr (X2 lo n) (Nat.le_refl _) (Nat.le_refl _) (Nat.le_refl _) (Nat.le_refl _) (Nat.le_refl _) (Nat.le_refl _)
  have e42 : s2.1 42 n = nI b := by rw [f2.1 42 rfl (by decide), f1.1 42 rfl (by decide), f0.1 42 rfl (by decide)]; exact eb
  have e44 : s2.1 44 n = nI p := by rw [f2.1 44 rfl (by decide), f1.1 44 rfl (by decide), f0.1 44 rfl (by decide)]; exact ep
  rcases hs2 with ⟨rfl, s', ρ, fa, fb, la, lb, Γf, j1, j2, j3, y', yC, yL, eτ, p43, p44, p45, p46, rfl, pF, pY, pW⟩ | ⟨rfl, -⟩
  · obtain ⟨τs, rfl⟩ : ∃ τs', τs = s' :: τs' := by
      cases τs with
      | nil => exact absurd eτ (f_t_at _ _)
      | cons x xs => exact ⟨xs, by rw [(f_a_inj (show f_a x (f_l xs f_t) = f_a s' ρ from eτ)).1]⟩
    have eρ : f_l τs f_t = ρ := (f_a_inj (show f_a s' (f_l τs f_t) = f_a s' ρ from eτ)).2
    subst eρ
    have hy' : y' = 0 := by omega
    subst hy'
    rw [if_neg (by decide), e_Rm_familyBehind_257, c_rg_nI (by omega) (by decide), nI_clamp (show n < 2 ^ 31 by omega), e42, p43, p44, p45, p46]
    obtain ⟨hs37, hoks, hokρ⟩ := id (show (f_n s' ≤ 37 ∧ f_fin s') ∧ f_ok s' ∧ f_ok (f_l τs f_t) from hok)
    refine k_bd (hO C2 L2 W (t + 1) (S + 1) T R (a + 1) k h w2 b Γ s2 ⟨h2, (X02 (b + 1) 0).1.T hT0.2.1 tb (by omega), hΓ, by omega, by omega, by omega, by omega⟩) (fun s3 x3 g3 => ?_)
    obtain ⟨X3, g3⟩ := g3
    have X03 : h_ex (a + 1) b C L W T R Γ.length s s3 := (X02 (a + 1) b).tr X3 c1 c2 (Nat.le_refl _) (Nat.le_refl _) (Nat.le_refl _) (Nat.le_refl _)
    rw [e_Rm_familyBehind_292]
    rcases g3 with D3 | ⟨C3, L3, W3, t3, S3, T3, y3, τ3, h3, ⟨n1, n2, n3, n4, n5⟩, cC, cL, cT, cW, ⟨kb, hOb⟩, hokb, hfinb, ⟨nb, Γb, kb3, kyb, ib1, ib2, ib3⟩, -, hy3⟩
    · rw [if_neg (x_gt D3.1), h_178D d _ _ _ _ s3 D3]
      exact k_some (hP s3 X03 D3)
    have hT3 := h3.2.2.2.2.1
    obtain ⟨z40, z41, z42⟩ := X03.1.2.2.1 n (by omega) (Or.inr hbn)
    rw [if_pos h3.1.2.1, c_rg_nI (by omega) (by decide), nI_clamp (show n < 2 ^ 31 by omega), ib1, X03.1.1.1 44 rfl (by decide), ep]
    refine k_bd (h_wanted d (by omega) nb fa y3 0 kyb 1 kb3 j3 p Γb Γf τ3 s' _ la hp s3 h3 (by omega) (by omega) (by omega) (by omega) (by omega) hokb hfinb hoks hs37.2 ib2 (o_F_Y (by omega) (X3.1.F pF)) ib3 (X3.1.W pW (Nat.le_refl _) n1 n2 n3)) (fun s4 x4 g4 => ?_)
    obtain ⟨X4, ⟨q30, q33, q17, q42, q40, q41⟩, ans4⟩ := g4
    have c54 : s4.1 34 54 = s.1 34 54 := ((X4 0 0).2.1).trans X03.2.1
    rw [c_rg_nI (by omega) (by decide), q42, z42, eb]
    obtain ⟨s5, s6, es5, es6, f6, X6, r30, r33, r53, r54, r55, r56⟩ := h_cl d (by omega) C3 L3 T3 R Γ.length (nI b) (s4.1 34 54) la s4 (by omega) (by omega) q30 q33
    rw [es5, c_bd_some, es6, c_bd_some]
    have X36 : ∀ lo n, h_ex lo n C3 L3 W3 T3 R Γ.length s3 s6 := fun lo n => (X4 lo n).tr (X6 lo n W3) (Nat.le_refl _) (Nat.le_refl _) (Nat.le_refl _) (Nat.le_refl _) (Nat.le_refl _) (Nat.le_refl _)
    have X06 : h_ex (a + 1) b C L W T R Γ.length s s6 := X03.tr (X36 (a + 1) b) (by omega) (by omega) (by omega) (by omega) (Nat.le_refl _) (Nat.le_refl _)
    refine hK (nI fb) (nI L3) s6 X06 ?_
    rcases ans4 with D4 | ⟨rfl, t4, S4, ht4, h4⟩
    · exact Or.inl (D4.fld f6 rfl rfl)
    have w17 : s6.1 34 17 = nI T3 := by rw [f6.2.1 17 rfl]; exact q17
    have h6 : h_S κ nc M (C3 + 1) (L3 + 1) W3 t4 S4 T3 R Γ s6 := h4.to (X6 0 0 W3) (by omega) (by omega) (Nat.le_refl _) h4.2.1.2.2.2.2 (by rw [f6.2.1 9 rfl]; exact h4.1.2.1) r30 r33 (by rw [f6.2.1 36 rfl]; exact h4.2.1.2.2.1) (by rw [f6.2.1 40 rfl]; exact h4.2.1.2.2.2.1) (by rw [f6.2.1 42 rfl]; exact h4.2.2.1.1) h4.2.2.1.2 (by rw [f6.2.1 41 rfl]; exact h4.2.2.2.1.1) h4.2.2.2.1.2 w17 hT3.2 (by rw [f6.2.1 59 rfl]; exact h4.2.2.2.2.2.1)
    obtain ⟨v40, v41, v42⟩ := X06.1.2.2.1 n (by omega) (Or.inr hbn)
    have hOb6 : o_T s6 κ nc kb h Γ b τ3 := (X36 0 0).1.O hOb
    have hOa6 : o_T s6 κ nc ka h Γ a (f_a τ3 (f_l τs f_t)) := X06.1.O hOa
    have hha6 : o_h s6 ka a c := o_h_ag X06.1.2.1.1 ka a c (by omega) hha
    have X26 : h_fr (a + 1) b C2 L2 W T R Γ.length s2 s6 := X3.1.tr (X36 (a + 1) b).1 n1 n2 n3 n4 (Nat.le_refl _) (Nat.le_refl _)
    obtain ⟨kc, hctx⟩ := hs.2.2.2.2.2.2.2.2.2
    have hcl : w_W s6 κ nc (C3 + 1) (L3 + 1) W3 (kc + 1) (.inl C3) [τ3] := ⟨by omega, Or.inl ⟨τ3, b, Γ, rfl, r53, ⟨kb, h, by omega, hOb6⟩, by rw [r54, c54]; exact X06.1.W hctx (Nat.le_refl _) (by omega) (by omega) (by omega)⟩⟩
    refine Or.inr ⟨C3 + 1, L3 + 1, W3, t4, S4, T3, h6, ⟨by omega, by omega, by omega, by omega, by omega⟩, by omega, by omega, by omega, by omega, τs, c, ⟨max ka kb + 1, ⟨hn, Or.inr (Or.inr (Or.inr ⟨v40.trans ek, a, b, τ3, v41.trans ea, v42.trans eb, han, hbn, o_T_k ka _ h Γ a _ (by omega) hOa6, o_T_k kb _ h Γ b _ (by omega) hOb6⟩))⟩, Or.inr ⟨v40.trans ek, a, han, v41.trans ea, o_h_k ka _ a c (by omega) hha6⟩⟩, hc, hokρ, fb, τ3 :: Γf, max (kc + 1) j3 + 1, j2, rfl, X26.Y (by omega) h2.2.2.2.2.1.1 w17 (by omega) (by omega) j2 0 _ fb _ pY, L3, C3, rfl, by omega, r55, ⟨hs37, hoks⟩, w_W_up (Nat.le_refl _) (Nat.le_refl _) (Nat.le_refl _) (kc + 1) _ _ _ (by omega) hcl, by rw [r56]; exact X26.W pW (by omega) (by omega) (by omega) (by omega)⟩
  · rw [if_pos rfl, e_Rm_familyBehind_245, c_rg_nI (by omega) (by decide), nI_clamp (show n < 2 ^ 31 by omega), e44]
    refine k_bd (h_wrong d (by omega) 4 (by decide) p hp s2 h2 (by omega)) (fun σ r g => ?_)
    rw [h_257D d (by omega) _ _ _ _ n hn σ g.2]
    exact k_some (hP σ ((X02 (a + 1) b).tr (h_ex.fld (z_F.mono g.1 rfl)) c1 c2 (Nat.le_refl _) (Nat.le_refl _) (Nat.le_refl _) (Nat.le_refl _)) g.2)
