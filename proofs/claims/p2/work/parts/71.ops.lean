/-! what EQUAL and telling do step by step -/
def v_S (C L B W t S q : Nat) (s : c_S) : Prop := u_S C L B t S s ∧ s.1 34 40 = nI W ∧ s.1 34 53 = nI q ∧ q ≤ 100
/-- what was there is as it was, new VARS too -/
def v_ex (C L B W : Nat) (s σ : c_S) : Prop := z_F [53, 54, 55, 56, 57, 58, 59, 60, 61, 62, 63] [30, 33, 36, 40, 41, 42, 43, 44, 45, 46, 47, 48, 51, 52, 53] [] s σ ∧ w_ag C L W s σ ∧ (∀ i, i < B → σ.1 57 i = s.1 57 i ∧ σ.1 58 i = s.1 58 i)
theorem v_ex.rf {C L B W : Nat} {s : c_S} : v_ex C L B W s s := ⟨z_F.rf, w_ag.rf, fun _ _ => ⟨rfl, rfl⟩⟩
theorem v_ex.tr {C L B W C' L' B' W' : Nat} {s t u : c_S} (h : v_ex C L B W s t) (k : v_ex C' L' B' W' t u) (h1 : C ≤ C') (h2 : L ≤ L') (h3 : B ≤ B') (h4 : W ≤ W') : v_ex C L B W s u :=
  ⟨z_F.tr h.1 k.1, h.2.1.tr (k.2.1.le h1 h2 h4), fun i hi => ⟨(k.2.2 i (by omega)).1.trans (h.2.2 i hi).1, (k.2.2 i (by omega)).2.trans (h.2.2 i hi).2⟩⟩
theorem w_ex.v {C L B W : Nat} {s σ : c_S} (h : w_ex C L B W s σ) : v_ex C L B W s σ := ⟨z_F.mono h.1 rfl, h.2.1, h.2.2⟩
/-- only the object's own fields -/
theorem v_fld {C L B W : Nat} {s σ : c_S} (f : z_F [] [30, 33, 36, 40, 41, 42, 43, 44, 45, 46, 47, 48, 51, 52, 53] [] s σ) : v_ex C L B W s σ :=
  ⟨z_F.mono f rfl, ⟨o_ag.of f rfl, fun h _ => by rw [f.1 53 rfl (by decide), f.1 54 rfl (by decide)]; exact ⟨rfl, rfl⟩, fun h _ => by rw [f.1 55 rfl (by decide), f.1 56 rfl (by decide)]; exact ⟨rfl, rfl⟩, fun h _ => by rw [f.1 59 rfl (by decide), f.1 60 rfl (by decide)]; exact ⟨rfl, rfl⟩⟩, fun i _ => by rw [f.1 57 rfl (by decide), f.1 58 rfl (by decide)]; exact ⟨rfl, rfl⟩⟩
theorem v_ex.B {C L B W C' L' B' W' : Nat} {s σ : c_S} (h : v_ex C L B W s σ) {κ : Nat → Std.Format} {nc : Nat} {b : Int32} {τs : List Std.Format} (hb : w_B s κ nc C L W B b τs) (h1 : C ≤ C') (h2 : L ≤ L') (h3 : B ≤ B') (h4 : W ≤ W') : w_B σ κ nc C' L' W' B' b τs := w_B_ag h.2.1 h.2.2 h1 h2 h4 h3 τs b hb
theorem v_ex.W {C L B W C' L' W' : Nat} {s σ : c_S} (h : v_ex C L B W s σ) {κ : Nat → Std.Format} {nc k k' : Nat} {x : Nat ⊕ Int32} {Γ : List Std.Format} (hb : w_W s κ nc C L W k x Γ) (hk : k ≤ k') (h1 : C ≤ C') (h2 : L ≤ L') (h4 : W ≤ W') : w_W σ κ nc C' L' W' k' x Γ := w_W_up h1 h2 h4 k k' x Γ hk (w_W_ag h.2.1 k x Γ hb)
theorem v_ex.K {C L B W : Nat} {s σ : c_S} (h : v_ex C L B W s σ) {κ : Nat → Std.Format} {nc : Nat} (hK : w_K s κ nc) : w_K σ κ nc := w_K_ag hK h.2.1.1 (h.1.1 50 rfl (by decide)) (h.1.1 51 rfl (by decide))
theorem v_ex.Y {C L B W : Nat} {s σ : c_S} (h : v_ex C L B W s σ) {κ : Nat → Std.Format} {nc k y n : Nat} {Γ : List Std.Format} {τ : Std.Format} (hY : o_Y s κ nc k y Γ n τ) : o_Y σ κ nc k y Γ n τ := o_Y_eq (z_n h.1 rfl) k y Γ n τ hY
theorem v_ex.F {C L B W : Nat} {s σ : c_S} (h : v_ex C L B W s σ) {κ : Nat → Std.Format} {nc k y n : Nat} {Γ : List Std.Format} {τ : Std.Format} (hY : o_F s κ nc k y Γ n τ) : o_F σ κ nc k y Γ n τ := o_F_ag h.2.1.1 k y Γ n τ hY
/-- a question is asked: DEEP, SPENT, or it goes on -/
theorem v_asks (d : Nat) (hd : 2 ≤ d) {C L B W t S q : Nat} (s : c_S) (hv : v_S C L B W t S q s) : c_M d 53 [v_r 34] s = some (s, 10) ∨ c_M d 53 [v_r 34] s = some (s, 9) ∨ ∃ σ, c_M d 53 [v_r 34] s = some (σ, 1) ∧ t < 20000 ∧ q < 100 ∧ v_S C L B W (t + 1) (S + 1) (q + 1) σ ∧ v_ex C L B W s σ := by
  obtain ⟨d, rfl⟩ : ∃ e, d = e + 1 := ⟨d - 1, by omega⟩
  obtain ⟨⟨u1, u2, u3, u4, u5⟩, v1, v2, v3⟩ := id hv
  rw [m_Rm_asks, e_Rm_asks_0, v2]
  by_cases hq : nI q = 100
  · exact Or.inl (by rw [if_pos hq])
  · rw [if_neg hq]
    have hq' : q ≠ 100 := fun e => hq (by rw [e]; rfl)
    rcases w_step d (by omega) s t S u4.2 u5.2 u4.1 u5.1 with hs | ⟨σ, t1, S1, hs, f, e42, e41⟩
    · exact Or.inr (Or.inl (by rw [hs, c_bd_some, if_pos rfl]))
    · refine Or.inr (Or.inr ⟨c_put σ 34 53 (nI (q + 1)), ?_, t1, by omega, ?_, ?_⟩)
      · rw [hs, c_bd_some, if_neg (by decide), f.2.1 53 rfl, v2, nI_1]
      · have f2 : z_F [] [53] [] σ (c_put σ 34 53 (nI (q + 1))) := z_F.puf z_F.rf rfl
        exact ⟨⟨by rw [f2.2.1 30 rfl, f.2.1 30 rfl]; exact u1, by rw [f2.2.1 33 rfl, f.2.1 33 rfl]; exact u2, by rw [f2.2.1 36 rfl, f.2.1 36 rfl]; exact u3, ⟨by rw [f2.2.1 42 rfl]; exact e42, by omega⟩, ⟨by rw [f2.2.1 41 rfl]; exact e41, by omega⟩⟩, by rw [f2.2.1 40 rfl, f.2.1 40 rfl]; exact v1, c_put_same, by omega⟩
      · exact v_fld (z_F.puf (z_F.mono f rfl) rfl)
/-- a new VAR -/
theorem v_new (d : Nat) (hd : 2 ≤ d) {κ : Nat → Std.Format} {nc C L B W t S q : Nat} (n kk k : Nat) (l num : Int32) (Γ : List Std.Format) (τ : Std.Format) (s : c_S) (hv : v_S C L B W t S q s) (hC : C < 400000) (hW : W < 24000) (hF : o_F s κ nc kk 37 Γ n τ) (hl : w_W s κ nc C L W k (.inr l) Γ) : ∃ σ, c_M d 44 [v_r 34, v_i (nI n), v_i l, v_i num] s = some (σ, nI C) ∧ v_S (C + 1) L B (W + 1) t S q σ ∧ v_ex C L B W s σ ∧ w_W σ κ nc (C + 1) L (W + 1) (k + 1) (.inl C) [τ] := by
  obtain ⟨d, rfl⟩ : ∃ e, d = e + 1 := ⟨d - 1, by omega⟩
  obtain ⟨⟨u1, u2, u3, u4, u5⟩, v1, v2, v3⟩ := id hv
  rw [m_Rm_newVar, e_Rm_newVar_0, v1, c_rg_nI hW (by decide), c_rg_nI hW (by decide), c_rg_nI hW (by decide), nI_clamp (show W < 2 ^ 31 by omega), nI_1]
  have f1 : z_F [59, 60, 61] [40] [] s (c_put (c_put (c_put (c_put s 59 W (nI n)) 60 W l) 61 W num) 34 40 (nI (W + 1))) := z_F.puf (z_F.put (z_F.put (z_F.put z_F.rf rfl (by decide)) rfl (by decide)) rfl (by decide)) rfl
  have e59 : (c_put (c_put (c_put (c_put s 59 W (nI n)) 60 W l) 61 W num) 34 40 (nI (W + 1))).1 59 W = nI n := by rw [c_put_off (by decide), c_put_off (by decide), c_put_off (by decide), c_put_same]
  have e60 : (c_put (c_put (c_put (c_put s 59 W (nI n)) 60 W l) 61 W num) 34 40 (nI (W + 1))).1 60 W = l := by rw [c_put_off (by decide), c_put_off (by decide), c_put_same]
  have o59 : ∀ w, w < W → (c_put (c_put (c_put (c_put s 59 W (nI n)) 60 W l) 61 W num) 34 40 (nI (W + 1))).1 59 w = s.1 59 w ∧ (c_put (c_put (c_put (c_put s 59 W (nI n)) 60 W l) 61 W num) 34 40 (nI (W + 1))).1 60 w = s.1 60 w := fun w hw => ⟨by rw [c_put_off (by decide), c_put_off (by decide), c_put_off (by decide), c_put_get, if_neg (by omega)], by rw [c_put_off (by decide), c_put_off (by decide), c_put_get, if_neg (by omega), c_put_off (by decide)]⟩
  have e40 : (c_put (c_put (c_put (c_put s 59 W (nI n)) 60 W l) 61 W num) 34 40 (nI (W + 1))).1 34 40 = nI (W + 1) := c_put_same
  generalize c_put (c_put (c_put (c_put s 59 W (nI n)) 60 W l) 61 W num) 34 40 (nI (W + 1)) = s1 at f1 e59 e60 o59 e40 ⊢
  obtain ⟨σ, es, f2, m1, m2, m3, m4⟩ := w_closure d (by omega) (-nI (W + 1)) (-1) s1 C hC (by rw [f1.2.1 30 rfl]; exact u1)
  rw [es, c_bd_some]
  have fz : z_F [53, 54, 55, 56, 57, 58, 59, 60, 61, 62, 63] [30, 33, 36, 40, 41, 42, 43, 44, 45, 46, 47, 48, 51, 52, 53] [] s σ := z_F.tr (z_F.mono f1 rfl) (z_F.mono f2 rfl)
  have ex : v_ex C L B W s σ := ⟨fz, ⟨o_ag.of fz rfl, fun h hh => ⟨(m4 h hh).1.trans (by rw [f1.1 53 rfl (by decide)]), (m4 h hh).2.trans (by rw [f1.1 54 rfl (by decide)])⟩, fun h _ => by rw [f2.1 55 rfl (by decide), f2.1 56 rfl (by decide), f1.1 55 rfl (by decide), f1.1 56 rfl (by decide)]; exact ⟨rfl, rfl⟩, fun w hw => by rw [f2.1 59 rfl (by decide), f2.1 60 rfl (by decide)]; exact o59 w hw⟩, fun i _ => by rw [f2.1 57 rfl (by decide), f2.1 58 rfl (by decide), f1.1 57 rfl (by decide), f1.1 58 rfl (by decide)]; exact ⟨rfl, rfl⟩⟩
  refine ⟨σ, rfl, ⟨⟨m1, by rw [f2.2.1 33 rfl, f1.2.1 33 rfl]; exact u2, by rw [f2.2.1 36 rfl, f1.2.1 36 rfl]; exact u3, ⟨by rw [f2.2.1 42 rfl, f1.2.1 42 rfl]; exact u4.1, u4.2⟩, ⟨by rw [f2.2.1 41 rfl, f1.2.1 41 rfl]; exact u5.1, u5.2⟩⟩, by rw [f2.2.1 40 rfl]; exact e40, by rw [f2.2.1 53 rfl, f1.2.1 53 rfl]; exact v2, v3⟩, ex, by omega, Or.inr ⟨τ, W, n, Γ, rfl, m2, by omega, by rw [f2.1 59 rfl (by decide)]; exact e59, ⟨kk, ex.F hF⟩, ?_⟩⟩
  rw [f2.1 60 rfl (by decide), e60]
  exact ex.W hl (Nat.le_refl _) (by omega) (Nat.le_refl _) (by omega)
/-- a row with one more behind it -/
theorem v_append {κ : Nat → Std.Format} {nc C L W t S q : Nat} (h k : Nat) (τ : Std.Format) : ∀ (τs : List Std.Format) (d B : Nat) (b : Int32) (s : c_S), τs.length + 2 ≤ d → v_S C L B W t S q s → B + τs.length < 400000 → w_B s κ nc C L W B b τs → w_W s κ nc C L W k (.inl h) [τ] → ∃ σ r, c_M d 59 [v_r 34, v_i b, v_i (nI h)] s = some (σ, r) ∧ v_S C L (B + τs.length + 1) W t S q σ ∧ v_ex C L B W s σ ∧ w_B σ κ nc C L W (B + τs.length + 1) r (τs ++ [τ])
  | [], d, B, b, s, hd, hv, hB, hb, hw => by
    obtain ⟨d, rfl⟩ : ∃ e, d = e + 1 := ⟨d - 1, by omega⟩
    obtain ⟨⟨u1, u2, u3, u4, u5⟩, v1, v2, v3⟩ := id hv
    have hb : b = -1 := hb
    subst hb
    rw [m_Rm_append, e_Rm_append_0, if_pos (by decide)]
    obtain ⟨σ, es, f, p1, p2, p3, p4⟩ := w_behind d (by simp at hd; omega) (nI h) (-1) s B (by simpa using hB) u3
    rw [es, c_bd_some]
    have ex : v_ex C L B W s σ := ⟨z_F.mono f rfl, ⟨o_ag.of f rfl, fun h _ => by rw [f.1 53 rfl (by decide), f.1 54 rfl (by decide)]; exact ⟨rfl, rfl⟩, fun h _ => by rw [f.1 55 rfl (by decide), f.1 56 rfl (by decide)]; exact ⟨rfl, rfl⟩, fun h _ => by rw [f.1 59 rfl (by decide), f.1 60 rfl (by decide)]; exact ⟨rfl, rfl⟩⟩, p4⟩
    refine ⟨σ, nI B, rfl, ⟨⟨by rw [f.2.1 30 rfl]; exact u1, by rw [f.2.1 33 rfl]; exact u2, p1, ⟨by rw [f.2.1 42 rfl]; exact u4.1, u4.2⟩, ⟨by rw [f.2.1 41 rfl]; exact u5.1, u5.2⟩⟩, by rw [f.2.1 40 rfl]; exact v1, by rw [f.2.1 53 rfl]; exact v2, v3⟩, ex, B, h, rfl, by simp, p2, ⟨k, ex.W hw (Nat.le_refl _) (Nat.le_refl _) (Nat.le_refl _) (Nat.le_refl _)⟩, p3⟩
  | τ0 :: τs, d, B, b, s, hd, hv, hB, hb, hw => by
    obtain ⟨d, rfl⟩ : ∃ e, d = e + 1 := ⟨d - 1, by omega⟩
    rw [List.length_cons] at hd hB
    obtain ⟨i, hd', rfl, i1, i2, ⟨ki, i3⟩, i4⟩ := hb
    rw [m_Rm_append, e_Rm_append_0, if_neg (nI_pos (by omega)), c_rg_nI (by omega) (by decide), c_rg_nI (by omega) (by decide), nI_clamp (show i < 2 ^ 31 by omega)]
    obtain ⟨σ1, r1, es1, hv1, ex1, hb1⟩ := v_append h k τ τs d B (s.1 58 i) s (by omega) hv (by omega) i4 hw
    rw [es1, c_bd_some, i2]
    obtain ⟨⟨u1, u2, u3, u4, u5⟩, v1, v2, v3⟩ := id hv1
    obtain ⟨σ, es, f, p1, p2, p3, p4⟩ := w_behind d (by omega) (nI hd') r1 σ1 (B + τs.length + 1) (by omega) u3
    rw [es, c_bd_some]
    have ex2 : v_ex C L (B + τs.length + 1) W σ1 σ := ⟨z_F.mono f rfl, ⟨o_ag.of f rfl, fun h _ => by rw [f.1 53 rfl (by decide), f.1 54 rfl (by decide)]; exact ⟨rfl, rfl⟩, fun h _ => by rw [f.1 55 rfl (by decide), f.1 56 rfl (by decide)]; exact ⟨rfl, rfl⟩, fun h _ => by rw [f.1 59 rfl (by decide), f.1 60 rfl (by decide)]; exact ⟨rfl, rfl⟩⟩, p4⟩
    have ex : v_ex C L B W s σ := ex1.tr ex2 (Nat.le_refl _) (Nat.le_refl _) (by omega) (Nat.le_refl _)
    have el : (τ0 :: τs).length = τs.length + 1 := rfl
    rw [el]
    refine ⟨σ, _, rfl, ⟨⟨by rw [f.2.1 30 rfl]; exact u1, by rw [f.2.1 33 rfl]; exact u2, p1, ⟨by rw [f.2.1 42 rfl]; exact u4.1, u4.2⟩, ⟨by rw [f.2.1 41 rfl]; exact u5.1, u5.2⟩⟩, by rw [f.2.1 40 rfl]; exact v1, by rw [f.2.1 53 rfl]; exact v2, v3⟩, ex, B + τs.length + 1, hd', rfl, by omega, p2, ⟨ki, ex.W i3 (Nat.le_refl _) (Nat.le_refl _) (Nat.le_refl _) (Nat.le_refl _)⟩, ?_⟩
    rw [p3]
    exact ex2.B hb1 (Nat.le_refl _) (Nat.le_refl _) (by omega) (Nat.le_refl _)
