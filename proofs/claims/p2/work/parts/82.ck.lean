/-- a node for a type -/
theorem h_tn (d : Nat) (hd : 1 ≤ d) {T : Nat} (k a b : Int32) (s : c_S) (e : s.1 34 17 = nI T) (h1 : 120000 ≤ T) (h2 : T < 136000) : ∃ σ, c_M d 31 [v_r 34, v_i k, v_i a, v_i b] s = some (σ, nI T) ∧ z_F [40, 41, 42] [17] [] s σ ∧ (∀ (lo n C L W R c : Nat), h_ex lo n C L W T R c s σ) ∧ σ.1 34 17 = nI (T + 1) ∧ σ.1 40 T = k ∧ σ.1 41 T = a ∧ σ.1 42 T = b := by
  obtain ⟨d, rfl⟩ : ∃ e, d = e + 1 := ⟨d - 1, by omega⟩
  rw [m_Rm_typeNode, e_Rm_typeNode_0, e, c_rg_nI h2 (by decide), c_rg_nI h2 (by decide), c_rg_nI h2 (by decide), nI_clamp (show T < 2 ^ 31 by omega), nI_1]
  have f : z_F [40, 41, 42] [17] [] s (c_put (c_put (c_put (c_put s 40 T k) 41 T a) 42 T b) 34 17 (nI (T + 1))) := z_F.puf (z_F.put (z_F.put (z_F.put z_F.rf rfl (by decide)) rfl (by decide)) rfl (by decide)) rfl
  have ho : ∀ m, m ≠ T → (c_put (c_put (c_put (c_put s 40 T k) 41 T a) 42 T b) 34 17 (nI (T + 1))).1 40 m = s.1 40 m ∧ (c_put (c_put (c_put (c_put s 40 T k) 41 T a) 42 T b) 34 17 (nI (T + 1))).1 41 m = s.1 41 m ∧ (c_put (c_put (c_put (c_put s 40 T k) 41 T a) 42 T b) 34 17 (nI (T + 1))).1 42 m = s.1 42 m := fun m hm => ⟨by rw [c_put_off (by decide), c_put_off (by decide), c_put_off (by decide), c_put_get, if_neg hm], by rw [c_put_off (by decide), c_put_off (by decide), c_put_get, if_neg hm, c_put_off (by decide)], by rw [c_put_off (by decide), c_put_get, if_neg hm, c_put_off (by decide), c_put_off (by decide)]⟩
  refine ⟨_, rfl, f, fun lo n C L W R c => ?_, c_put_same, by rw [c_put_off (by decide), c_put_off (by decide), c_put_off (by decide), c_put_same], by rw [c_put_off (by decide), c_put_off (by decide), c_put_same], by rw [c_put_off (by decide), c_put_same]⟩
  exact ⟨⟨z_F.mono f rfl, ⟨fun m hm _ => ho m (by omega), fun h _ => by rw [f.1 53 rfl (by decide), f.1 54 rfl (by decide)]; exact ⟨rfl, rfl⟩, fun h _ => by rw [f.1 55 rfl (by decide), f.1 56 rfl (by decide)]; exact ⟨rfl, rfl⟩, fun h _ => by rw [f.1 59 rfl (by decide), f.1 60 rfl (by decide)]; exact ⟨rfl, rfl⟩⟩, fun i hi _ => ho i (by omega), fun i _ => by rw [f.1 64 rfl (by decide), f.1 65 rfl (by decide)]; exact ⟨rfl, rfl⟩, fun i _ => by rw [f.1 66 rfl (by decide)]⟩, f.2.1 54 rfl, f.2.1 55 rfl⟩
theorem h_is (d : Nat) (hd : 1 ≤ d) (a l b : Int32) (s : c_S) : ∃ σ, c_M d 70 [v_r 34, v_i a, v_i l, v_i b] s = some (σ, 0) ∧ z_F [] [60, 61, 62] [] s σ ∧ σ.1 34 60 = a ∧ σ.1 34 61 = l ∧ σ.1 34 62 = b := by
  obtain ⟨d, rfl⟩ : ∃ e, d = e + 1 := ⟨d - 1, by omega⟩
  rw [m_Rm_is, e_Rm_is_0]
  exact ⟨_, rfl, z_F.puf (z_F.puf (z_F.puf z_F.rf rfl) rfl) rfl, by rw [c_put_get, if_neg (by decide), c_put_get, if_neg (by decide), c_put_same], by rw [c_put_get, if_neg (by decide), c_put_same], c_put_same⟩
/-- after typeNode and is -/
theorem h_S.tn {κ : Nat → Std.Format} {nc M C L W t S T R : Nat} {Γ : List Std.Format} {s σ : c_S} (h : h_S κ nc M C L W t S T R Γ s) (x : h_ex 0 0 C L W T R Γ.length s σ) (f : z_F [40, 41, 42] [17, 60, 61, 62] [] s σ) (e : σ.1 34 17 = nI (T + 1)) (hT : T < 136000) : h_S κ nc M C L W t S (T + 1) R Γ σ := by
  obtain ⟨⟨a1, a2, m, a3, a4⟩, ⟨b1, b2, b3, b4, b5⟩, c, d, ⟨e1, e2⟩, f1, g, i⟩ := id h
  exact h.to x (Nat.le_refl _) (Nat.le_refl _) (Nat.le_refl _) b5 (by rw [f.2.1 9 rfl]; exact a2) (by rw [f.2.1 30 rfl]; exact b1) (by rw [f.2.1 33 rfl]; exact b2) (by rw [f.2.1 36 rfl]; exact b3) (by rw [f.2.1 40 rfl]; exact b4) (by rw [f.2.1 42 rfl]; exact c.1) c.2 (by rw [f.2.1 41 rfl]; exact d.1) d.2 e (by omega) (by rw [f.2.1 59 rfl]; exact f1)
/-- what is known of a checked object: its type τ, as isNode and as told -/
def h_R (κ : Nat → Std.Format) (nc C L W h w y1 : Nat) (Γ : List Std.Format) (n : Nat) (τ : Std.Format) (σ : c_S) : Prop := (∃ kk, o_T σ κ nc kk h Γ n τ) ∧ f_ok τ ∧ f_fin τ ∧ (∃ a Γ' k3 ky, σ.1 34 60 = nI a ∧ o_Y σ κ nc ky y1 Γ' a τ ∧ w_W σ κ nc C L W k3 (.inr (σ.1 34 61)) Γ') ∧ (∃ b ky y2, σ.1 34 62 = nI b ∧ o_Y σ κ nc ky y2 Γ b τ ∧ y2 ≤ w) ∧ y1 ≤ w
/-- what checking an object leaves -/
def h_OP (κ : Nat → Std.Format) (nc M C L W t T R lo h w n : Nat) (Γ : List Std.Format) (s σ : c_S) : Prop := h_ex lo n C L W T R Γ.length s σ ∧ (h_D M σ ∨ ∃ C' L' W' t' S' T' y1 τ, h_S κ nc M C' L' W' t' S' T' R Γ σ ∧ (C ≤ C' ∧ L ≤ L' ∧ W ≤ W' ∧ T ≤ T' ∧ t ≤ t') ∧ C' + y1 + lo ≤ C + (h + 2) * w + n + 1 ∧ L' + y1 + lo ≤ L + (h + 2) * w + n + 1 ∧ T' + lo ≤ T + n + 1 ∧ W' + t ≤ W + t' ∧ h_R κ nc C' L' W' h w y1 Γ n τ σ)
set_option maxHeartbeats 1000000 in
theorem h_name (d : Nat) (hd : 3 ≤ d) {κ : Nat → Std.Format} {nc M C L W t S T R : Nat} {Γ : List Std.Format} (h w lo n : Nat) (hn : n < 120000) (hl : lo ≤ n) (s : c_S) (hs : h_S κ nc M C L W t S T R Γ s) (hR : R ≤ 700) (hΓ : Γ.length ≤ 38) (hT : T < 136000) (hk : (∃ i, i < Γ.length ∧ s.1 40 n = 2 ∧ s.1 41 n = nI i) ∨ (∃ c, c < nc ∧ s.1 40 n = 3 ∧ s.1 41 n = nI c)) : k_ok (c_M d 72 [v_r 34, v_i (nI n)] s) (fun σ _ => h_OP κ nc M C L W t T R lo h w n Γ s σ) := by
  obtain ⟨d, rfl⟩ : ∃ e, d = e + 2 := ⟨d - 2, by omega⟩
  obtain ⟨⟨a1, a2, m, a3, a4⟩, ⟨b1, b2, b3, b4, b5⟩, c1, c2, ⟨e1, e2⟩, f1, ⟨g1, g2, g3⟩, i1, i2, kc, i3⟩ := id hs
  have hnc := g1.1
  rw [m_Rm_name, e_Rm_name_0, if_neg (by rw [a2]; decide), m_Rm_isFamilyNode, e_Rm_isFamilyNode_0, c_rg_nI (by omega) (by decide), nI_clamp (show n < 2 ^ 31 by omega)]
  -- the end: a type node and is
  have fin : ∀ (k a b : Int32) (τ : Std.Format), (f_ok τ ∧ f_fin τ) → (∃ kk, o_T s κ nc kk h Γ n τ) → (∀ σ : c_S, h_fr 0 0 C L W T R Γ.length s σ → σ.1 40 T = k → σ.1 41 T = a → σ.1 42 T = b → σ.1 34 17 = nI (T + 1) → o_Y σ κ nc 1 0 Γ T τ) → k_ok (c_bd (c_M (d + 1) 31 [v_r 34, v_i k, v_i a, v_i b] s) fun s2 x2 => b_Rm_name_87 (c_M (d + 1)) x2 s2) (fun σ _ => h_OP κ nc M C L W t T R lo h w n Γ s σ) := by
    intro k a b τ hτ hO hY
    obtain ⟨σ1, es1, F1, X1, t1, t2, t3, t4⟩ := h_tn (d + 1) (by omega) k a b s e1 e2.1 hT
    rw [es1, c_bd_some, e_Rm_name_87]
    obtain ⟨σ2, es2, F2, u1, u2, u3⟩ := h_is (d + 1) (by omega) (nI T) (σ1.1 34 54) (nI T) σ1
    rw [es2, c_bd_some]
    have X2 : ∀ lo n, h_ex lo n C L W T R Γ.length s σ2 := fun lo n => (X1 lo n C L W R Γ.length).tr (h_ex.fld (z_F.mono F2 rfl)) (Nat.le_refl _) (Nat.le_refl _) (Nat.le_refl _) (Nat.le_refl _) (Nat.le_refl _) (Nat.le_refl _)
    have h2 := hs.tn (X2 0 0) (z_F.tr (z_F.mono F1 rfl) (z_F.mono F2 rfl)) (by rw [F2.2.1 17 rfl]; exact t1) hT
    have hYσ := hY σ2 (X2 0 0).1 (by rw [F2.1 40 rfl (by decide)]; exact t2) (by rw [F2.1 41 rfl (by decide)]; exact t3) (by rw [F2.1 42 rfl (by decide)]; exact t4) (by rw [F2.2.1 17 rfl]; exact t1)
    obtain ⟨kk, hO⟩ := hO
    refine k_some ⟨X2 lo n, Or.inr ⟨C, L, W, t, S, T + 1, 0, τ, h2, ⟨Nat.le_refl _, Nat.le_refl _, Nat.le_refl _, by omega, Nat.le_refl _⟩, ?_, ?_, by omega, by omega, ⟨kk, (X2 0 0).1.O hO⟩, hτ.1, hτ.2, ⟨T, Γ, kc, 1, u1, hYσ, ?_⟩, ⟨T, 1, 0, u3, hYσ, by omega⟩, by omega⟩⟩
    · exact Nat.le_trans (by omega) (Nat.add_le_add_right (Nat.add_le_add_right (Nat.le_add_right C ((h + 2) * w)) n) 1)
    · exact Nat.le_trans (by omega) (Nat.add_le_add_right (Nat.add_le_add_right (Nat.le_add_right L ((h + 2) * w)) n) 1)
    · rw [u2, (X1 0 0 C L W R Γ.length).2.1]; exact (X2 0 0).1.W i3 (Nat.le_refl _) (Nat.le_refl _) (Nat.le_refl _) (Nat.le_refl _)
  rcases hk with ⟨i, hi, k1, k2⟩ | ⟨c, hc, k1, k2⟩
  · rw [if_neg (by rw [k1]; decide), c_bd_some, if_pos rfl, c_rg_nI (by omega) (by decide), if_pos k1, c_rg_nI (by omega) (by decide), c_rg_nI (by omega) (by decide)]
    obtain ⟨b, kk, τ, q1, q2, q3⟩ := h_bd_type Γ i hi i2
    obtain ⟨l, hl⟩ : ∃ l, Γ.length = l + 1 := ⟨Γ.length - 1, by omega⟩
    rw [i1, k2, hl, nI_pred, nI_sub (by omega) (by omega), c_rg_nI (by omega) (by decide), nI_clamp (show l - i < 2 ^ 31 by omega), nI_1]
    rw [show Γ.length - 1 - i = l - i by omega] at q1
    rw [q1]
    have hτ := w_W_Γ kc _ Γ i3 τ (List.mem_of_getElem? q2)
    exact fin 7 (nI (i + 1)) (nI b) τ ⟨hτ.2, hτ.1.2⟩ ⟨1, hn, Or.inl ⟨k1, i, by omega, k2, q2⟩⟩ (fun σ X w1 w2 w3 w4 => ⟨⟨hT, Or.inr (by rw [w4, nI_clamp (show T + 1 < 2 ^ 31 by omega)]; omega)⟩, Or.inr (Or.inl ⟨w1, i + 1, b, kk, by omega, by omega, w2, w3, X.F q3⟩)⟩)
  · rw [if_pos k1, c_rg_nI (by omega) (by decide), k2, c_rg_nI (by omega) (by decide), nI_clamp (show c < 2 ^ 31 by omega)]
    rcases g2 c hc with ⟨z1, z2⟩ | ⟨z1, -⟩
    · rw [if_pos z1, c_bd_some, if_pos rfl, c_rg_nI (by omega) (by decide), if_neg (by rw [k1]; decide), c_rg_nI (by omega) (by decide), k2]
      exact fin 8 (nI c) (-1) (κ c) ⟨(g1.2 c hc).1.2, z2⟩ ⟨1, hn, Or.inr (Or.inl ⟨k1, c, k2, hc, rfl⟩)⟩ (fun σ X w1 w2 w3 w4 => ⟨⟨hT, Or.inr (by rw [w4, nI_clamp (show T + 1 < 2 ^ 31 by omega)]; omega)⟩, Or.inr (Or.inr (Or.inl ⟨w1, c, w2, hc, rfl⟩))⟩)
    · rw [if_neg z1, c_bd_some, if_neg (by decide), c_rg_nI (by omega) (by decide)]
      obtain ⟨p, hp, ep⟩ := (a1.2.2 n).1
      rw [ep]
      exact k_bd (h_wrong (d + 1) (by omega) 6 (by decide) p hp s hs hR) (fun σ r g => k_some ⟨h_ex.fld (z_F.mono g.1 rfl), Or.inl g.2⟩)
