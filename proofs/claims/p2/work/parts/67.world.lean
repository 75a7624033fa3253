/-! closures, lists, rows behind a head, new VARS: each points at what was there before it -/
def w_W (σ : c_S) (κ : Nat → Std.Format) (nc CL LI NW : Nat) : Nat → Nat ⊕ Int32 → List Std.Format → Prop
  | 0, _, _ => False
  | k + 1, .inl h, Γ => h < CL ∧ ((∃ τ n Γ', Γ = [τ] ∧ σ.1 53 h = nI n ∧ (∃ kk hh, hh ≤ 38 ∧ o_T σ κ nc kk hh Γ' n τ) ∧ w_W σ κ nc CL LI NW k (.inr (σ.1 54 h)) Γ') ∨ (∃ τ w t Γ', Γ = [τ] ∧ σ.1 53 h = -nI (w + 1) ∧ w < NW ∧ σ.1 59 w = nI t ∧ (∃ kk, o_F σ κ nc kk 37 Γ' t τ) ∧ w_W σ κ nc CL LI NW k (.inr (σ.1 60 w)) Γ'))
  | _ + 1, .inr l, [] => l = -1
  | k + 1, .inr l, τ :: Γ => ∃ i hd, l = nI i ∧ i < LI ∧ σ.1 55 i = nI hd ∧ ((f_n τ ≤ 37 ∧ f_fin τ) ∧ f_ok τ) ∧ w_W σ κ nc CL LI NW k (.inl hd) [τ] ∧ w_W σ κ nc CL LI NW k (.inr (σ.1 56 i)) Γ
def w_B (σ : c_S) (κ : Nat → Std.Format) (nc CL LI NW BE : Nat) : Int32 → List Std.Format → Prop
  | b, [] => b = -1
  | b, τ :: τs => ∃ i hd, b = nI i ∧ i < BE ∧ σ.1 57 i = nI hd ∧ (∃ k, w_W σ κ nc CL LI NW k (.inl hd) [τ]) ∧ w_B σ κ nc CL LI NW BE (σ.1 58 i) τs
/-- the constants, typed -/
def w_K (σ : c_S) (κ : Nat → Std.Format) (nc : Nat) : Prop := nc ≤ 100 ∧ ∀ c, c < nc → (f_n (κ c) ≤ 38 ∧ f_ok (κ c)) ∧ (∃ t k, σ.1 50 c = nI t ∧ o_F σ κ nc k 38 [] t (κ c)) ∧ (σ.1 51 c = -1 ∨ ∃ m k, σ.1 51 c = nI m ∧ o_T σ κ nc k 38 [] m (κ c))
/-- nothing below the counts has changed -/
def w_ag (CL LI NW : Nat) (σ σ' : c_S) : Prop := o_ag σ σ' ∧ (∀ h, h < CL → σ'.1 53 h = σ.1 53 h ∧ σ'.1 54 h = σ.1 54 h) ∧ (∀ i, i < LI → σ'.1 55 i = σ.1 55 i ∧ σ'.1 56 i = σ.1 56 i) ∧ (∀ w, w < NW → σ'.1 59 w = σ.1 59 w ∧ σ'.1 60 w = σ.1 60 w)
theorem w_ag.rf {CL LI NW : Nat} {σ : c_S} : w_ag CL LI NW σ σ := ⟨o_ag.rf, fun _ _ => ⟨rfl, rfl⟩, fun _ _ => ⟨rfl, rfl⟩, fun _ _ => ⟨rfl, rfl⟩⟩
theorem w_ag.le {CL LI NW CL' LI' NW' : Nat} {σ σ' : c_S} (h : w_ag CL LI NW σ σ') (h1 : CL' ≤ CL) (h2 : LI' ≤ LI) (h3 : NW' ≤ NW) : w_ag CL' LI' NW' σ σ' := ⟨h.1, fun i hi => h.2.1 i (by omega), fun i hi => h.2.2.1 i (by omega), fun i hi => h.2.2.2 i (by omega)⟩
theorem w_ag.tr {CL LI NW : Nat} {σ τ ρ : c_S} (h : w_ag CL LI NW σ τ) (k : w_ag CL LI NW τ ρ) : w_ag CL LI NW σ ρ :=
  ⟨h.1.tr k.1, fun i hi => ⟨(k.2.1 i hi).1.trans (h.2.1 i hi).1, (k.2.1 i hi).2.trans (h.2.1 i hi).2⟩, fun i hi => ⟨(k.2.2.1 i hi).1.trans (h.2.2.1 i hi).1, (k.2.2.1 i hi).2.trans (h.2.2.1 i hi).2⟩, fun i hi => ⟨(k.2.2.2 i hi).1.trans (h.2.2.2 i hi).1, (k.2.2.2 i hi).2.trans (h.2.2.2 i hi).2⟩⟩
theorem w_W_ag {CL LI NW : Nat} {σ σ' : c_S} (h : w_ag CL LI NW σ σ') {κ : Nat → Std.Format} {nc : Nat} : ∀ (k : Nat) (x : Nat ⊕ Int32) (Γ : List Std.Format), w_W σ κ nc CL LI NW k x Γ → w_W σ' κ nc CL LI NW k x Γ
  | 0, _, _, hx => hx.elim
  | k + 1, .inl i, Γ, hx => by
    obtain ⟨hi, hx⟩ := hx
    obtain ⟨e1, e2⟩ := h.2.1 i hi
    refine ⟨hi, ?_⟩
    rcases hx with ⟨τ, n, Γ', q1, q2, ⟨kk, hh, q3, q4⟩, q5⟩ | ⟨τ, w, t, Γ', q1, q2, q3, q4, ⟨kk, q5⟩, q6⟩
    · exact Or.inl ⟨τ, n, Γ', q1, e1.trans q2, ⟨kk, hh, q3, o_T_ag h.1 kk hh Γ' n τ q4⟩, by rw [e2]; exact w_W_ag h k _ Γ' q5⟩
    · obtain ⟨e3, e4⟩ := h.2.2.2 w q3
      exact Or.inr ⟨τ, w, t, Γ', q1, e1.trans q2, q3, e3.trans q4, ⟨kk, o_F_ag h.1 kk 37 Γ' t τ q5⟩, by rw [e4]; exact w_W_ag h k _ Γ' q6⟩
  | k + 1, .inr l, [], hx => hx
  | k + 1, .inr l, τ :: Γ, hx => by
    obtain ⟨i, hd, q1, q2, q3, q4, q5, q6⟩ := hx
    obtain ⟨e1, e2⟩ := h.2.2.1 i q2
    exact ⟨i, hd, q1, q2, e1.trans q3, q4, w_W_ag h k _ _ q5, by rw [e2]; exact w_W_ag h k _ Γ q6⟩
theorem w_W_up {σ : c_S} {κ : Nat → Std.Format} {nc CL LI NW CL' LI' NW' : Nat} (h1 : CL ≤ CL') (h2 : LI ≤ LI') (h3 : NW ≤ NW') : ∀ (k k' : Nat) (x : Nat ⊕ Int32) (Γ : List Std.Format), k ≤ k' → w_W σ κ nc CL LI NW k x Γ → w_W σ κ nc CL' LI' NW' k' x Γ
  | 0, _, _, _, _, hx => hx.elim
  | k + 1, 0, _, _, hk, _ => absurd hk (by omega)
  | k + 1, k' + 1, .inl i, Γ, hk, hx => by
    obtain ⟨hi, hx⟩ := hx
    refine ⟨by omega, ?_⟩
    rcases hx with ⟨τ, n, Γ', q1, q2, q3, q5⟩ | ⟨τ, w, t, Γ', q1, q2, q3, q4, q5, q6⟩
    · exact Or.inl ⟨τ, n, Γ', q1, q2, q3, w_W_up h1 h2 h3 k k' _ Γ' (by omega) q5⟩
    · exact Or.inr ⟨τ, w, t, Γ', q1, q2, by omega, q4, q5, w_W_up h1 h2 h3 k k' _ Γ' (by omega) q6⟩
  | k + 1, k' + 1, .inr l, [], hk, hx => hx
  | k + 1, k' + 1, .inr l, τ :: Γ, hk, hx => by
    obtain ⟨i, hd, q1, q2, q3, q4, q5, q6⟩ := hx
    exact ⟨i, hd, q1, by omega, q3, q4, w_W_up h1 h2 h3 k k' _ _ (by omega) q5, w_W_up h1 h2 h3 k k' _ Γ (by omega) q6⟩
theorem w_B_ag {CL LI NW BE : Nat} {σ σ' : c_S} (h : w_ag CL LI NW σ σ') (hb : ∀ i, i < BE → σ'.1 57 i = σ.1 57 i ∧ σ'.1 58 i = σ.1 58 i) {κ : Nat → Std.Format} {nc CL' LI' NW' BE' : Nat} (h1 : CL ≤ CL') (h2 : LI ≤ LI') (h3 : NW ≤ NW') (h4 : BE ≤ BE') : ∀ (τs : List Std.Format) (b : Int32), w_B σ κ nc CL LI NW BE b τs → w_B σ' κ nc CL' LI' NW' BE' b τs
  | [], _, hx => hx
  | τ :: τs, b, hx => by
    obtain ⟨i, hd, q1, q2, q3, ⟨k, q4⟩, q5⟩ := hx
    obtain ⟨e1, e2⟩ := hb i q2
    exact ⟨i, hd, q1, by omega, e1.trans q3, ⟨k, w_W_up h1 h2 h3 k k _ _ (Nat.le_refl _) (w_W_ag h k _ _ q4)⟩, by rw [e2]; exact w_B_ag h hb h1 h2 h3 h4 τs _ q5⟩
theorem w_K_ag {σ σ' : c_S} {κ : Nat → Std.Format} {nc : Nat} (h : w_K σ κ nc) (ha : o_ag σ σ') (e1 : σ'.1 50 = σ.1 50) (e2 : σ'.1 51 = σ.1 51) : w_K σ' κ nc := by
  refine ⟨h.1, fun c hc => ?_⟩
  obtain ⟨h1, ⟨t, k, h2, h3⟩, h4⟩ := h.2 c hc
  refine ⟨h1, ⟨t, k, by rw [e1]; exact h2, o_F_ag ha k 38 [] t _ h3⟩, ?_⟩
  rcases h4 with h4 | ⟨m, k2, h4, h5⟩
  · exact Or.inl (by rw [e2]; exact h4)
  · exact Or.inr ⟨m, k2, by rw [e2]; exact h4, o_T_ag ha k2 38 [] m _ h5⟩
theorem nI_1s (a : Nat) : nI a + 1 - 1 = nI a := by rw [nI_1]; exact nI_pred a
/-- a new closure -/
theorem w_closure (d : Nat) (hd : 1 ≤ d) (n l : Int32) (s : c_S) (C : Nat) (hC : C < 400000) (e : s.1 34 30 = nI C) : ∃ σ, c_M d 41 [v_r 34, v_i n, v_i l] s = some (σ, nI C) ∧ z_F [53, 54] [30] [] s σ ∧ σ.1 34 30 = nI (C + 1) ∧ σ.1 53 C = n ∧ σ.1 54 C = l ∧ (∀ h, h < C → σ.1 53 h = s.1 53 h ∧ σ.1 54 h = s.1 54 h) := by
  obtain ⟨d, rfl⟩ : ∃ e, d = e + 1 := ⟨d - 1, by omega⟩
  rw [m_Rm_closure, e_Rm_closure_0, e, c_rg_nI hC (by decide), c_rg_nI hC (by decide), nI_clamp (show C < 2 ^ 31 by omega), nI_1s, nI_1]
  refine ⟨_, rfl, z_F.puf (z_F.put (z_F.put z_F.rf rfl (by decide)) rfl (by decide)) rfl, c_put_same, ?_, ?_, fun h hh => ⟨?_, ?_⟩⟩
  · rw [c_put_off (by decide), c_put_off (by decide), c_put_same]
  · rw [c_put_off (by decide), c_put_same]
  · rw [c_put_off (by decide), c_put_off (by decide), c_put_get, if_neg (by omega)]
  · rw [c_put_off (by decide), c_put_get, if_neg (by omega), c_put_off (by decide)]
theorem w_list (d : Nat) (hd : 1 ≤ d) (n l : Int32) (s : c_S) (C : Nat) (hC : C < 400000) (e : s.1 34 33 = nI C) : ∃ σ, c_M d 42 [v_r 34, v_i n, v_i l] s = some (σ, nI C) ∧ z_F [55, 56] [33] [] s σ ∧ σ.1 34 33 = nI (C + 1) ∧ σ.1 55 C = n ∧ σ.1 56 C = l ∧ (∀ h, h < C → σ.1 55 h = s.1 55 h ∧ σ.1 56 h = s.1 56 h) := by
  obtain ⟨d, rfl⟩ : ∃ e, d = e + 1 := ⟨d - 1, by omega⟩
  rw [m_Rm_list, e_Rm_list_0, e, c_rg_nI hC (by decide), c_rg_nI hC (by decide), nI_clamp (show C < 2 ^ 31 by omega), nI_1s, nI_1]
  refine ⟨_, rfl, z_F.puf (z_F.put (z_F.put z_F.rf rfl (by decide)) rfl (by decide)) rfl, c_put_same, ?_, ?_, fun h hh => ⟨?_, ?_⟩⟩
  · rw [c_put_off (by decide), c_put_off (by decide), c_put_same]
  · rw [c_put_off (by decide), c_put_same]
  · rw [c_put_off (by decide), c_put_off (by decide), c_put_get, if_neg (by omega)]
  · rw [c_put_off (by decide), c_put_get, if_neg (by omega), c_put_off (by decide)]
theorem w_behind (d : Nat) (hd : 1 ≤ d) (n l : Int32) (s : c_S) (C : Nat) (hC : C < 400000) (e : s.1 34 36 = nI C) : ∃ σ, c_M d 43 [v_r 34, v_i n, v_i l] s = some (σ, nI C) ∧ z_F [57, 58] [36] [] s σ ∧ σ.1 34 36 = nI (C + 1) ∧ σ.1 57 C = n ∧ σ.1 58 C = l ∧ (∀ h, h < C → σ.1 57 h = s.1 57 h ∧ σ.1 58 h = s.1 58 h) := by
  obtain ⟨d, rfl⟩ : ∃ e, d = e + 1 := ⟨d - 1, by omega⟩
  rw [m_Rm_behind, e_Rm_behind_0, e, c_rg_nI hC (by decide), c_rg_nI hC (by decide), nI_clamp (show C < 2 ^ 31 by omega), nI_1s, nI_1]
  refine ⟨_, rfl, z_F.puf (z_F.put (z_F.put z_F.rf rfl (by decide)) rfl (by decide)) rfl, c_put_same, ?_, ?_, fun h hh => ⟨?_, ?_⟩⟩
  · rw [c_put_off (by decide), c_put_off (by decide), c_put_same]
  · rw [c_put_off (by decide), c_put_same]
  · rw [c_put_off (by decide), c_put_off (by decide), c_put_get, if_neg (by omega)]
  · rw [c_put_off (by decide), c_put_get, if_neg (by omega), c_put_off (by decide)]
/-- a STEP -/
theorem w_step (d : Nat) (hd : 1 ≤ d) (s : c_S) (t S : Nat) (ht : t ≤ 20000) (hS : S ≤ 60000) (e1 : s.1 34 42 = nI t) (e2 : s.1 34 41 = nI S) : c_M d 45 [v_r 34] s = some (s, 0) ∨ ∃ σ, t < 20000 ∧ S < 60000 ∧ c_M d 45 [v_r 34] s = some (σ, 1) ∧ z_F [] [41, 42] [] s σ ∧ σ.1 34 42 = nI (t + 1) ∧ σ.1 34 41 = nI (S + 1) := by
  obtain ⟨d, rfl⟩ : ∃ e, d = e + 1 := ⟨d - 1, by omega⟩
  rw [m_Rm_step, e_Rm_step_0, e1, e2]
  by_cases h1 : nI t = 20000
  · exact Or.inl (by rw [if_pos h1])
  · rw [if_neg h1]
    by_cases h2 : nI S = 60000
    · exact Or.inl (by rw [if_pos h2])
    · rw [if_neg h2, nI_1, nI_1]
      have n1 : t ≠ 20000 := fun e => h1 (by rw [e]; rfl)
      have n2 : S ≠ 60000 := fun e => h2 (by rw [e]; rfl)
      refine Or.inr ⟨_, by omega, by omega, rfl, z_F.puf (z_F.puf z_F.rf rfl) rfl, ?_, c_put_same⟩
      rw [c_put_get, if_neg (by decide), c_put_same]
