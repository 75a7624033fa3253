/-! the type of an object, as the reference keeps it: Y_ nodes over families; y counts what is put -/
def o_Y (σ : c_S) (κ : Nat → Std.Format) (nc : Nat) : Nat → Nat → List Std.Format → Nat → Std.Format → Prop
  | 0, _, _, _, _ => False
  | k + 1, y, Γ, n, τ => (n < 136000 ∧ (n < 120000 ∨ n < (σ.1 34 17).toNatClampNeg)) ∧
      ((∃ kk h, h ≤ 38 ∧ o_F σ κ nc kk h Γ n τ) ∨
       (σ.1 40 n = 7 ∧ ∃ i b kk, i ≤ Γ.length ∧ i < 65 ∧ σ.1 41 n = nI i ∧ σ.1 42 n = nI b ∧ o_F σ κ nc kk 37 (Γ.drop i) b τ) ∨
       (σ.1 40 n = 8 ∧ ∃ c, σ.1 41 n = nI c ∧ c < nc ∧ τ = κ c) ∨
       (σ.1 40 n = 9 ∧ ∃ a b s r kk, σ.1 41 n = nI a ∧ σ.1 42 n = nI b ∧ τ = f_a s r ∧ o_F σ κ nc kk 37 Γ a s ∧ o_Y σ κ nc k y (s :: Γ) b r) ∨
       (σ.1 40 n = 10 ∧ ∃ a b s y' kk hh, y = y' + 1 ∧ σ.1 41 n = nI a ∧ σ.1 42 n = nI b ∧ hh ≤ 38 ∧ ((f_n s ≤ 37 ∧ f_fin s) ∧ f_ok s) ∧ o_T σ κ nc kk hh Γ b s ∧ o_Y σ κ nc k y' Γ a (f_a s τ)))
/-- the Y_ nodes are as they were, too -/
def o_ag2 (σ σ' : c_S) : Prop := o_ag σ σ' ∧ ∀ n, n < 136000 → 120000 ≤ n → σ'.1 40 n = σ.1 40 n ∧ σ'.1 41 n = σ.1 41 n ∧ σ'.1 42 n = σ.1 42 n
/-- what shows answers: q = how much is put still -/
def w_sh (κ : Nat → Std.Format) (nc C L NW zC zL : Nat) (τ : Std.Format) (σ : c_S) (r : Int32) : Prop :=
  (r = 1 ∧ ∃ s ρ a b la lb Γ k1 k2 k3 y', C + y' ≤ zC ∧ L + y' ≤ zL ∧ τ = f_a s ρ ∧ σ.1 34 43 = nI a ∧ σ.1 34 44 = la ∧ σ.1 34 45 = nI b ∧ σ.1 34 46 = lb ∧ la = lb ∧ o_F σ κ nc k1 37 Γ a s ∧ o_Y σ κ nc k2 y' (s :: Γ) b ρ ∧ w_W σ κ nc C L NW k3 (.inr la) Γ) ∨
  (r = 0 ∧ C ≤ zC ∧ L ≤ zL ∧ f_at τ ∧ ∃ a la Γ k1 k3, σ.1 34 47 = nI a ∧ σ.1 34 48 = la ∧ (∃ h, h ≤ 38 ∧ o_F σ κ nc k1 h Γ a τ) ∧ w_W σ κ nc C L NW k3 (.inr la) Γ)
theorem o_F_up {σ : c_S} {κ : Nat → Std.Format} {nc : Nat} : ∀ (k h h' : Nat) (Γ : List Std.Format) (n : Nat) (τ : Std.Format), h ≤ h' → o_F σ κ nc k h Γ n τ → o_F σ κ nc k h' Γ n τ
  | 0, _, _, _, _, _, _, hx => hx.elim
  | k + 1, h, h', Γ, n, τ, hh, hx => by
    obtain ⟨hn, hx⟩ := hx
    refine ⟨hn, ?_⟩
    rcases hx with ⟨e, a, b, h0, s, r, q1, q2, q3, q4, q5, q6, q7, q8⟩ | hx | hx
    · exact Or.inl ⟨e, a, b, h' - 1, s, r, by omega, q2, q3, q4, q5, q6, o_F_up k h0 (h' - 1) Γ a s (by omega) q7, o_F_up k h0 (h' - 1) (s :: Γ) b r (by omega) q8⟩
    · exact Or.inr (Or.inl hx)
    · exact Or.inr (Or.inr hx)
theorem w_sh.le {κ : Nat → Std.Format} {nc C L NW zC zL zC' zL' : Nat} {τ : Std.Format} {σ : c_S} {r : Int32} (h : w_sh κ nc C L NW zC zL τ σ r) (h1 : zC ≤ zC') (h2 : zL ≤ zL') : w_sh κ nc C L NW zC' zL' τ σ r := by
  rcases h with ⟨e, s', ρ, a, b, la, lb, Γ, k1, k2, k3, y', q1, q2, q⟩ | ⟨e, q1, q2, q⟩
  · exact Or.inl ⟨e, s', ρ, a, b, la, lb, Γ, k1, k2, k3, y', by omega, by omega, q⟩
  · exact Or.inr ⟨e, by omega, by omega, q⟩
theorem w_shownF (d : Nat) (hd : 1 ≤ d) {κ : Nat → Std.Format} {nc C L NW : Nat} (kk h k n : Nat) (hh : h ≤ 38) (Γ : List Std.Format) (τ : Std.Format) (l : Int32) (s : c_S) (hF : o_F s κ nc kk h Γ n τ) (hW : w_W s κ nc C L NW k (.inr l) Γ) : ∃ σ r, c_M d 49 [v_r 34, v_i (nI n), v_i l] s = some (σ, r) ∧ c_bz r = true ∧ z_F [] [43, 44, 45, 46, 47, 48] [] s σ ∧ w_sh κ nc C L NW C L τ σ r := by
  obtain ⟨d, rfl⟩ : ∃ e, d = e + 1 := ⟨d - 1, by omega⟩
  cases kk with
  | zero => exact hF.elim
  | succ kk =>
    obtain ⟨hn, hx⟩ := id hF
    rw [m_Rm_shown, e_Rm_shown_0, c_rg_nI (by omega) (by decide), nI_clamp (show n < 2 ^ 31 by omega)]
    have spine : ¬ s.1 40 n = 5 → ¬ s.1 40 n = 9 → f_at τ → ∃ σ r, (if s.1 40 n = 5 then b_Rm_shown_33 (c_M d) (nI n) l s else c_rg (nI n) 136000 (if s.1 40 n = 9 then b_Rm_shown_33 (c_M d) (nI n) l s else some ((c_put (c_put s 34 47 (nI n)) 34 48 l), 0))) = some (σ, r) ∧ c_bz r = true ∧ z_F [] [43, 44, 45, 46, 47, 48] [] s σ ∧ w_sh κ nc C L NW C L τ σ r := by
      intro h5 h9 hat
      have f : z_F [] [43, 44, 45, 46, 47, 48] [] s (c_put (c_put s 34 47 (nI n)) 34 48 l) := z_F.puf (z_F.puf z_F.rf rfl) rfl
      have fa : w_ag C L NW s (c_put (c_put s 34 47 (nI n)) 34 48 l) := ⟨o_ag.of f rfl, fun h _ => by rw [f.1 53 rfl (by decide), f.1 54 rfl (by decide)]; exact ⟨rfl, rfl⟩, fun h _ => by rw [f.1 55 rfl (by decide), f.1 56 rfl (by decide)]; exact ⟨rfl, rfl⟩, fun h _ => by rw [f.1 59 rfl (by decide), f.1 60 rfl (by decide)]; exact ⟨rfl, rfl⟩⟩
      rw [if_neg h5, c_rg_nI (by omega) (by decide), if_neg h9]
      refine ⟨_, _, rfl, by decide, f, Or.inr ⟨rfl, Nat.le_refl _, Nat.le_refl _, hat, n, l, Γ, kk + 1, k, ?_, c_put_same, ⟨h, hh, o_F_ag fa.1 (kk + 1) h Γ n τ hF⟩, w_W_ag fa k _ _ hW⟩⟩
      rw [c_put_get, if_neg (by decide), c_put_same]
    rcases hx with ⟨e, a, b, h', s', r', q1, q2, q3, q4, q5, q6, q7, q8⟩ | ⟨e, c, k2, h2, c0, c1, c2, c3, c4⟩ | ⟨e, e2⟩
    · rw [if_pos e, e_Rm_shown_33, c_rg_nI (by omega) (by decide), c_rg_nI (by omega) (by decide), nI_clamp (show n < 2 ^ 31 by omega), q2, q3]
      have f : z_F [] [43, 44, 45, 46, 47, 48] [] s (c_put (c_put (c_put (c_put s 34 43 (nI a)) 34 44 l) 34 45 (nI b)) 34 46 l) := z_F.puf (z_F.puf (z_F.puf (z_F.puf z_F.rf rfl) rfl) rfl) rfl
      have fa : w_ag C L NW s (c_put (c_put (c_put (c_put s 34 43 (nI a)) 34 44 l) 34 45 (nI b)) 34 46 l) := ⟨o_ag.of f rfl, fun h _ => by rw [f.1 53 rfl (by decide), f.1 54 rfl (by decide)]; exact ⟨rfl, rfl⟩, fun h _ => by rw [f.1 55 rfl (by decide), f.1 56 rfl (by decide)]; exact ⟨rfl, rfl⟩, fun h _ => by rw [f.1 59 rfl (by decide), f.1 60 rfl (by decide)]; exact ⟨rfl, rfl⟩⟩
      refine ⟨_, _, rfl, by decide, f, Or.inl ⟨rfl, s', r', a, b, l, l, Γ, kk, 1, k, 0, Nat.le_refl _, Nat.le_refl _, q6.1, ?_, ?_, ?_, c_put_same, rfl, ?_, ?_, w_W_ag fa k _ _ hW⟩⟩
      · rw [c_put_get, if_neg (by decide), c_put_get, if_neg (by decide), c_put_get, if_neg (by decide), c_put_same]
      · rw [c_put_get, if_neg (by decide), c_put_get, if_neg (by decide), c_put_same]
      · rw [c_put_get, if_neg (by decide), c_put_same]
      · exact o_F_ag fa.1 kk 37 Γ a s' (o_F_up kk h' 37 Γ a s' (by omega) q7)
      · exact ⟨by omega, Or.inl ⟨kk, h', by omega, o_F_ag fa.1 kk h' _ b r' q8⟩⟩
    · refine spine ?_ ?_ ?_
      · rcases e with e | e <;> (rw [e]; decide)
      · rcases e with e | e <;> (rw [e]; decide)
      · rw [c2]; exact f_b_at c
    · refine spine (by rw [e]; decide) (by rw [e]; decide) ?_
      rw [e2]; exact f_t_at
/-- what is put, the latest first -/
def w_P (σ : c_S) (κ : Nat → Std.Format) (nc C L NW : Nat) : List Std.Format → Prop
  | [] => True
  | x :: xs => (∃ N Γ kk hh k, σ.1 62 xs.length = nI N ∧ hh ≤ 38 ∧ o_T σ κ nc kk hh Γ N x ∧ w_W σ κ nc C L NW k (.inr (σ.1 63 xs.length)) Γ ∧ (f_n x ≤ 37 ∧ f_fin x) ∧ f_ok x) ∧ w_P σ κ nc C L NW xs
theorem w_P_ag {C L NW C' L' : Nat} {σ σ' : c_S} (h : w_ag C L NW σ σ') (h1 : C ≤ C') (h2 : L ≤ L') {κ : Nat → Std.Format} {nc : Nat} : ∀ (xs : List Std.Format), (∀ i, i < xs.length → σ'.1 62 i = σ.1 62 i ∧ σ'.1 63 i = σ.1 63 i) → w_P σ κ nc C L NW xs → w_P σ' κ nc C' L' NW xs
  | [], _, _ => trivial
  | x :: xs, hi, hx => by
    obtain ⟨⟨N, Γ, kk, hh, k, q1, q2, q3, q4, q5⟩, hx⟩ := hx
    obtain ⟨e1, e2⟩ := hi xs.length (Nat.lt_succ_self _)
    exact ⟨⟨N, Γ, kk, hh, k, e1.trans q1, q2, o_T_ag h.1 kk hh Γ N x q3, by rw [e2]; exact w_W_up h1 h2 (Nat.le_refl _) k k _ Γ (Nat.le_refl _) (w_W_ag h k _ Γ q4), q5⟩, w_P_ag h h1 h2 xs (fun i hi2 => hi i (Nat.lt_succ_of_lt hi2)) hx⟩
/-- what shows leaves: z = what may be taken of closures and of lists -/
def w_sP (κ : Nat → Std.Format) (nc C L NW z : Nat) (τ : Std.Format) (s σ : c_S) (r : Int32) : Prop := z_F [53, 54, 55, 56, 62, 63] [30, 33, 43, 44, 45, 46, 47, 48] [] s σ ∧ w_ag C L NW s σ ∧ c_bz r = true ∧ ∃ C' L', σ.1 34 30 = nI C' ∧ σ.1 34 33 = nI L' ∧ C ≤ C' ∧ L ≤ L' ∧ w_sh κ nc C' L' NW (C + z) (L + z) τ σ r
theorem w_sP.pre {κ : Nat → Std.Format} {nc C L NW z C1 L1 z1 : Nat} {τ : Std.Format} {s s1 σ : c_S} {r : Int32} (g : w_sP κ nc C1 L1 NW z1 τ s1 σ r) (f : z_F [53, 54, 55, 56, 62, 63] [30, 33, 43, 44, 45, 46, 47, 48] [] s s1) (h : w_ag C L NW s s1) (h1 : C ≤ C1) (h2 : L ≤ L1) (h3 : C1 + z1 ≤ C + z) (h4 : L1 + z1 ≤ L + z) : w_sP κ nc C L NW z τ s σ r := by
  obtain ⟨g1, g2, g3, C', L', g4, g5, g6, g7, g10⟩ := g
  exact ⟨z_F.tr f g1, h.tr (g2.le h1 h2 (Nat.le_refl _)), g3, C', L', g4, g5, by omega, by omega, g10.le h3 h4⟩
theorem w_shF (d : Nat) (hd : 2 ≤ d) {κ : Nat → Std.Format} {nc NW : Nat} : ∀ (kk h k n C L : Nat) (Γ xs : List Std.Format) (τ : Std.Format) (l : Int32) (s : c_S), h ≤ 38 → s.1 34 30 = nI C → s.1 34 33 = nI L → C + xs.length ≤ 400000 → L + xs.length ≤ 400000 → xs.length ≤ 16000 → o_F s κ nc kk h Γ n (f_l xs τ) → w_W s κ nc C L NW k (.inr l) Γ → w_P s κ nc C L NW xs → k_ok (b_Rm_shows_8 (c_M d) (nI n) l (nI xs.length) s) (w_sP κ nc C L NW xs.length τ s)
  | 0, _, _, _, _, _, _, _, _, _, _, _, _, _, _, _, _, hx, _, _ => hx.elim
  | kk + 1, h, k, n, C, L, Γ, xs, τ, l, s, hh, e30, e33, hC, hL, hp, hx, hW, hP => by
    obtain ⟨hn, hx'⟩ := id hx
    have no : ∀ m : Int32, m = 7 ∨ m = 8 ∨ m = 10 → ¬ s.1 40 n = m := by
      intro m hm e
      rcases hx' with ⟨e2, -⟩ | ⟨e2 | e2, -⟩ | ⟨e2, -⟩ <;> (rw [e2] at e; rcases hm with rfl | rfl | rfl <;> exact absurd e (by decide))
    rw [e_Rm_shows_8, c_rg_nI (by omega) (by decide), nI_clamp (show n < 2 ^ 31 by omega), if_neg (no 7 (Or.inl rfl)), e_Rm_shows_43, c_rg_nI (by omega) (by decide), nI_clamp (show n < 2 ^ 31 by omega), if_neg (no 8 (Or.inr (Or.inl rfl))), e_Rm_shows_72, c_rg_nI (by omega) (by decide), nI_clamp (show n < 2 ^ 31 by omega), if_neg (no 10 (Or.inr (Or.inr rfl))), e_Rm_shows_118]
    cases xs with
    | nil =>
      rw [if_neg (show ¬ (0 : Int32) < nI ([] : List Std.Format).length by decide), e_Rm_shows_162]
      obtain ⟨σ, r, e1, e2, e3, e4⟩ := w_shownF d (by omega) (kk + 1) h k n hh Γ τ l s hx hW
      rw [e1, c_bd_some]
      refine k_bz e2 ⟨z_F.mono e3 rfl, ?_, e2, C, L, by rw [e3.2.1 30 rfl]; exact e30, by rw [e3.2.1 33 rfl]; exact e33, Nat.le_refl _, Nat.le_refl _, e4.le (Nat.le_add_right _ _) (Nat.le_add_right _ _)⟩
      exact ⟨o_ag.of e3 rfl, fun h _ => by rw [e3.1 53 rfl (by decide), e3.1 54 rfl (by decide)]; exact ⟨rfl, rfl⟩, fun h _ => by rw [e3.1 55 rfl (by decide), e3.1 56 rfl (by decide)]; exact ⟨rfl, rfl⟩, fun h _ => by rw [e3.1 59 rfl (by decide), e3.1 60 rfl (by decide)]; exact ⟨rfl, rfl⟩⟩
    | cons x xs =>
      have hlen : (x :: xs).length = xs.length + 1 := rfl
      rw [hlen] at hC hL hp ⊢
      rcases hx' with ⟨e, a, b, h', s', r', q1, q2, q3, q4, q5, q6, q7, q8⟩ | ⟨e, c, k2, h2, c0, c1, c2, c3, c4⟩ | ⟨e, e2⟩
      · obtain ⟨e0, e1⟩ := f_a_inj (show f_a x (f_l xs τ) = f_a s' r' from q6.1)
        subst e0 e1
        obtain ⟨⟨N, Γ2, k3, h3, k4, p1, p2, p3, p4, p5⟩, hP2⟩ := hP
        rw [if_pos (show (0 : Int32) < nI (xs.length + 1) from nI_lt (a := 0) (by omega) (by omega)), e_Rm_shows_123, i32_m1, nI_pred, e_Rm_shows_126, c_rg_nI (by omega) (by decide), c_rg_nI (by omega) (by decide), nI_clamp (show xs.length < 2 ^ 31 by omega), p1]
        obtain ⟨σ1, es1, f1, m1, m2, m3, m4⟩ := w_closure d (by omega) (nI N) (s.1 63 xs.length) s C (by omega) e30
        rw [es1, c_bd_some]
        obtain ⟨σ2, es2, f2, l1, l2, l3, l4⟩ := w_list d (by omega) (nI C) l σ1 L (by omega) (by rw [f1.2.1 33 rfl]; exact e33)
        rw [es2, c_bd_some, e_Rm_shows_152, c_rg_nI (by omega) (by decide), nI_clamp (show n < 2 ^ 31 by omega), f2.1 42 rfl (by decide), f1.1 42 rfl (by decide), q3]
        have a1 : w_ag C L NW s σ1 := ⟨o_ag.of f1 rfl, m4, fun h _ => by rw [f1.1 55 rfl (by decide), f1.1 56 rfl (by decide)]; exact ⟨rfl, rfl⟩, fun h _ => by rw [f1.1 59 rfl (by decide), f1.1 60 rfl (by decide)]; exact ⟨rfl, rfl⟩⟩
        have a2 : w_ag C L NW σ1 σ2 := ⟨o_ag.of f2 rfl, fun h _ => by rw [f2.1 53 rfl (by decide), f2.1 54 rfl (by decide)]; exact ⟨rfl, rfl⟩, l4, fun h _ => by rw [f2.1 59 rfl (by decide), f2.1 60 rfl (by decide)]; exact ⟨rfl, rfl⟩⟩
        have aa := a1.tr a2
        have hcl : w_W σ2 κ nc (C + 1) (L + 1) NW (k4 + 1) (.inl C) [x] := ⟨by omega, Or.inl ⟨x, N, Γ2, rfl, by rw [f2.1 53 rfl (by decide)]; exact m2, ⟨k3, h3, p2, o_T_ag aa.1 k3 h3 Γ2 N x p3⟩, by rw [f2.1 54 rfl (by decide), m3]; exact w_W_up (by omega) (by omega) (Nat.le_refl _) k4 k4 _ Γ2 (Nat.le_refl _) (w_W_ag aa k4 _ Γ2 p4)⟩⟩
        have hl2 : w_W σ2 κ nc (C + 1) (L + 1) NW (max (k4 + 1) k + 1) (.inr (nI L)) (x :: Γ) := ⟨L, C, rfl, by omega, l2, p5, w_W_up (Nat.le_refl _) (Nat.le_refl _) (Nat.le_refl _) (k4 + 1) _ _ _ (by omega) hcl, by rw [l3]; exact w_W_up (by omega) (by omega) (Nat.le_refl _) k _ _ Γ (by omega) (w_W_ag aa k _ Γ hW)⟩
        have hP3 : w_P σ2 κ nc (C + 1) (L + 1) NW xs := w_P_ag aa (by omega) (by omega) xs (fun i _ => by rw [f2.1 62 rfl (by decide), f1.1 62 rfl (by decide), f2.1 63 rfl (by decide), f1.1 63 rfl (by decide)]; exact ⟨rfl, rfl⟩) hP2
        refine k_mono (w_shF d hd kk h' _ b (C + 1) (L + 1) (x :: Γ) xs τ (nI L) σ2 (by omega) (by rw [f2.2.1 30 rfl]; exact m1) l1 (by omega) (by omega) (by omega) (o_F_ag aa.1 kk h' _ b _ q8) hl2 hP3) (fun σ r g => g.pre (z_F.tr (z_F.mono f1 rfl) (z_F.mono f2 rfl)) aa (by omega) (by omega) (by omega) (by omega))
      · exact absurd c2.symm (f_b_at c _ _)
      · exact absurd e2.symm (f_t_at _ _)
