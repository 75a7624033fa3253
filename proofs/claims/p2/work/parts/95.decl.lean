def rr_Y (s t : c_S) : Prop := (∀ b, b < 34 → t.1 b = s.1 b) ∧ t.1 34 2 = s.1 34 2
theorem rr_Y.tr {s t u : c_S} (h : rr_Y s t) (k : rr_Y t u) : rr_Y s u := ⟨fun b hb => (k.1 b hb).trans (h.1 b hb), k.2.trans h.2⟩
theorem rr_Y.rf {s : c_S} : rr_Y s s := ⟨fun _ _ => rfl, rfl⟩
theorem rr_C.of {S Y L : List Nat} {s t : c_S} (f : z_F S Y L s t) (hS : S.all (fun a => Nat.ble 35 a) = true) : ∀ b, b < 34 → t.1 b = s.1 b := fun b hb => f.1 b (by
    cases hc : c_has S b
    · rfl
    · have := Nat.le_of_ble_eq_true (List.all_eq_true.mp hS b (c_has_mem hc))
      omega) (by omega)
theorem rr_Y.of {S Y L : List Nat} {s t : c_S} (f : z_F S Y L s t) (hS : (S.all (fun a => Nat.ble 35 a) && !(c_has Y 2)) = true) : rr_Y s t := by
  simp only [Bool.and_eq_true, Bool.not_eq_true'] at hS
  exact ⟨rr_C.of f hS.1, f.2.1 2 hS.2⟩
theorem x_D.of2 {S Y : List Nat} {M : Nat} {s t : c_S} (h : x_D M s) (f : z_F S Y [] s t) (hS : (!(c_has S 37) && !(c_has S 43) && !(c_has S 44) && !(c_has S 45) && !(c_has S 46)) = true) (hY : (!(c_has Y 9) && !(c_has Y 16)) = true) : x_D M t := by
  simp only [Bool.and_eq_true, Bool.not_eq_true'] at hY
  obtain ⟨m, hm, e⟩ := h.2.2
  exact ⟨h.1.of f hS, by rw [f.2.1 9 hY.1]; exact h.2.1, m, hm, by rw [f.2.1 16 hY.2]; exact e⟩
/-- only fields, and none that last -/
theorem rr_W.fld {κ : Nat → Std.Format} {nc m : Nat} {s σ : c_S} {Y : List Nat} (h : rr_W κ nc m s) (f : z_F [] Y [] s σ) (hY : (!(c_has Y 21) && !(c_has Y 41) && !(c_has Y 70)) = true) : rr_W κ nc m σ := by
  simp only [Bool.and_eq_true, Bool.not_eq_true'] at hY
  obtain ⟨h1, h2, h3, h4, h5, h6⟩ := h
  exact ⟨h1.of (f.o rfl) (f.1 49 rfl (by decide)) (f.1 50 rfl (by decide)) (f.1 51 rfl (by decide)) (fun c _ => by rw [f.1 52 rfl (by decide)]) (f.2.2 47 rfl) (f.2.2 48 rfl), by rw [f.2.1 21 hY.1.1]; exact h2, h3.of f rfl, h4.of (f.1 35 rfl (by decide)), by rw [f.2.1 41 hY.1.2]; exact h5, by rw [f.2.1 70 hY.2]; exact h6⟩
/-- a constant more -/
theorem rr_new {κ : Nat → Std.Format} {nc m m3 y ky : Nat} {τ : Std.Format} {s σ : c_S} (h : rr_K s κ nc m) (hnc : nc < 100) (hm : m ≤ m3) (hm3 : m3 ≤ 120000) (ho : o_old m3 s σ) (hy : y < m3) (hF : o_F s κ nc ky 38 [] y τ) (i3 : Int32) (hM : i3 = -1 ∨ ∃ n2 k2, i3 = nI n2 ∧ n2 < m3 ∧ o_T s κ nc k2 38 [] n2 τ) (e52 : σ.1 52 = s.1 52) (e52n : s.1 52 nc = nI m) (e49 : ∀ c, c < nc → σ.1 49 c = s.1 49 c) (e49n : (σ.1 49 nc = 0 ∧ f_fin τ) ∨ (¬ σ.1 49 nc = 0 ∧ ∃ τs, τ = f_l τs f_t)) (e50 : ∀ c, c < nc → σ.1 50 c = s.1 50 c) (e50n : σ.1 50 nc = nI y) (e51 : ∀ c, c < nc → σ.1 51 c = s.1 51 c) (e51n : σ.1 51 nc = i3) (e47 : ∀ c, c < nc → σ.2 47 c = s.2 47 c) (e48 : ∀ c, c < nc → σ.2 48 c = s.2 48 c) (e47n : z_lb (σ.2 47 nc) (64 ^ 9)) (e48n : z_lb (σ.2 48 nc) (64 ^ 3)) : rr_K σ (fun c => if c = nc then τ else κ c) (nc + 1) m3 := by
  obtain ⟨h1, h0, ⟨A, hA, h2⟩, h3, h4⟩ := h
  have mono : ∀ c, c < nc → A (c + 1) ≤ m := fun c hc => by
    have := rr_A (fun c hc => (h2 c hc).1) (nc - (c + 1)) (c + 1) (by omega)
    rw [show c + 1 + (nc - (c + 1)) = nc by omega, hA] at this
    exact this
  have hk : ∀ c, c < nc → (if c = nc then τ else κ c) = κ c := fun c hc => if_neg (by omega)
  refine ⟨by omega, hm3, ⟨fun c => if c ≤ nc then A c else m3, if_neg (by omega), fun c hc => ?_⟩, fun c hc => ?_, fun c hc => ?_⟩
  · by_cases e : c = nc
    · subst e
      dsimp only
      rw [if_pos (Nat.le_refl _), if_neg (by omega), if_pos rfl, e52, e52n, hA, e50n, e51n]
      refine ⟨hm, rfl, o_F_ok ky 38 [] y τ (Nat.le_refl _) hF, ⟨y, ky, rfl, hy, o_F_b ho hk (Nat.le_refl _) ky 38 [] y τ hy hF⟩, ?_⟩
      rcases hM with hM | ⟨n2, k2, q1, q2, q3⟩
      · exact Or.inl hM
      · exact Or.inr ⟨n2, k2, q1, q2, o_T_b ho hk (Nat.le_refl _) k2 38 [] n2 τ q2 q3⟩
    · have hc' : c < nc := by omega
      dsimp only
      rw [if_pos (by omega), if_pos (by omega), if_neg e, e52, e50 c hc', e51 c hc']
      obtain ⟨q0, q1, q2, ⟨t, k, q3, q4, q5⟩, q6⟩ := h2 c hc'
      have hmc := mono c hc'
      have hk' : ∀ c', c' < c → (if c' = nc then τ else κ c') = κ c' := fun c' hc'' => if_neg (by omega)
      refine ⟨q0, q1, q2, ⟨t, k, q3, q4, o_F_b ho hk' (Nat.le_refl _) k 38 [] t _ (by omega) q5⟩, ?_⟩
      rcases q6 with q6 | ⟨mm, k2, q6, q7, q8⟩
      · exact Or.inl q6
      · exact Or.inr ⟨mm, k2, q6, q7, o_T_b ho hk' (Nat.le_refl _) k2 38 [] mm _ (by omega) q8⟩
  · by_cases e : c = nc
    · subst e
      dsimp only
      rw [if_pos rfl]; exact e49n
    · dsimp only
      rw [if_neg e, e49 c (by omega)]; exact h3 c (by omega)
  · by_cases e : c = nc
    · subst e; exact ⟨e47n, e48n⟩
    · rw [e47 c (by omega), e48 c (by omega)]; exact h4 c (by omega)
/-- is it a family: the end of its type -/
theorem rr_294 (d nc : Nat) (hnc : nc < 101) (s : c_S) (e21 : s.1 34 21 = nI nc) {κ : Nat → Std.Format} {n1 : Nat} : ∀ (k h : Nat) (Γ : List Std.Format) (n : Nat) (τ : Std.Format), o_F s κ n1 k h Γ n τ → ∃ v, b_Rm_declaration_294 (c_M d) (nI n) s = some ((c_put (c_put s 49 nc v) 34 21 (nI (nc + 1))), 0) ∧ ((v = 0 ∧ f_fin τ) ∨ (¬ v = 0 ∧ ∃ τs, τ = f_l τs f_t))
  | 0, _, _, _, _, hx => hx.elim
  | k + 1, h, Γ, n, τ, hx => by
    obtain ⟨hn, hx⟩ := hx
    rw [e_Rm_declaration_294, c_rg_nI (by omega) (by decide), nI_clamp (show n < 2 ^ 31 by omega)]
    rcases hx with ⟨e, a, b, h', s', r, q1, q2, q3, q4, q5, ⟨q6, q6'⟩, q7, q8⟩ | ⟨e, c, kk, h2, c0, c1, c2, c3, c4⟩ | ⟨e, e2⟩
    · obtain ⟨v, ev, hv⟩ := rr_294 d nc hnc s e21 k h' (s' :: Γ) b r q8
      rw [if_pos e, c_rg_nI (by omega) (by decide), q3]
      refine ⟨v, ev, ?_⟩
      rcases hv with ⟨v0, hv⟩ | ⟨v0, τs, hv⟩
      · exact Or.inl ⟨v0, by rw [q6]; exact hv⟩
      · exact Or.inr ⟨v0, s' :: τs, by rw [q6, hv]; rfl⟩
    · rw [if_neg (by rcases e with e | e <;> (rw [e]; decide)), c_rg_nI (by omega) (by decide), if_neg (by rcases e with e | e <;> (rw [e]; decide)), e21, c_rg_nI hnc (by decide), nI_clamp (show nc < 2 ^ 31 by omega), nI_1]
      exact ⟨_, rfl, Or.inl ⟨by decide, by rw [c2]; trivial⟩⟩
    · rw [if_neg (by rw [e]; decide), c_rg_nI (by omega) (by decide), if_pos e, e21, c_rg_nI hnc (by decide), nI_clamp (show nc < 2 ^ 31 by omega), nI_1]
      exact ⟨_, rfl, Or.inr ⟨by decide, [], e2⟩⟩
/-- between two declarations -/
def rr_S (κ : Nat → Std.Format) (nc M N m a C L W t S : Nat) (s : c_S) : Prop := rr_L N M m a s ∧ rr_W κ nc m s ∧ (s.1 34 30 = nI C ∧ s.1 34 33 = nI L ∧ s.1 34 36 = 0 ∧ s.1 34 40 = nI W ∧ W ≤ t) ∧ (s.1 34 42 = nI t ∧ t ≤ 20000) ∧ (s.1 34 41 = nI S ∧ S ≤ 60000) ∧ (s.1 34 54 = -1 ∧ s.1 34 55 = 0) ∧ (C + 42 * (N - a) ≤ 168000 ∧ L + 42 * (N - a) ≤ 168000)
/-- what a declaration leaves -/
def rr_P (M N a : Nat) (s σ : c_S) : Prop := rr_Y s σ ∧ ((0 < σ.1 34 9 ∧ ∃ κ nc m, m ≤ M ∧ rr_W κ nc m σ ∧ σ.1 34 16 = nI m) ∨ ∃ κ nc m a' C L W t S, a < a' ∧ rr_S κ nc M N m a' C L W t S σ)
/-- a fault within a declaration: nothing more is read -/
def rr_E (κ : Nat → Std.Format) (nc m M : Nat) (s : c_S) : Prop := x_D M s ∧ rr_W κ nc m s ∧ s.1 52 nc = nI m
theorem rr_E.fld {κ : Nat → Std.Format} {nc m M : Nat} {s σ : c_S} {Y : List Nat} (h : rr_E κ nc m M s) (f : z_F [] Y [] s σ) (hY : (!(c_has Y 21) && !(c_has Y 41) && !(c_has Y 70)) = true) (hY2 : (!(c_has Y 9) && !(c_has Y 16)) = true) : rr_E κ nc m M σ := ⟨h.1.of2 f rfl hY2, h.2.1.fld f hY, by rw [f.1 52 rfl (by decide)]; exact h.2.2⟩
theorem rr_220D (d : Nat) {κ : Nat → Std.Format} {nc m M N a : Nat} (hm : m ≤ M) (i1 i2 i3 : Int32) (s0 s : c_S) (Y : rr_Y s0 s) (h : rr_E κ nc m M s) : k_ok (b_Rm_declaration_220 (c_M d) i1 i2 i3 s) (fun σ _ => rr_P M N a s0 σ) := by
  have hnc := h.2.1.1.1
  rw [e_Rm_declaration_220, if_pos h.1.2.1, h.2.1.2.1, c_rg_nI (by omega) (by decide), nI_clamp (show nc < 2 ^ 31 by omega), h.2.2]
  have f : z_F [] [16] [] s (c_put s 34 16 (nI m)) := z_F.puf z_F.rf rfl
  exact k_some ⟨Y.tr (rr_Y.of f rfl), Or.inl ⟨by rw [f.2.1 9 rfl]; exact h.1.2.1, κ, nc, m, hm, h.2.1.fld f rfl, c_put_same⟩⟩
theorem rr_177D (d : Nat) {κ : Nat → Std.Format} {nc m M N a : Nat} (hm : m ≤ M) (i1 i2 i3 i4 i5 : Int32) (s0 s : c_S) (Y : rr_Y s0 s) (h : rr_E κ nc m M s) : k_ok (b_Rm_declaration_177 (c_M d) i1 i2 i3 i4 i5 s) (fun σ _ => rr_P M N a s0 σ) := by
  rw [e_Rm_declaration_177, if_neg (x_gt h.1)]
  exact rr_220D d hm i1 i2 i3 s0 s Y h
theorem rr_138D (d : Nat) (hd : 2 ≤ d) {κ : Nat → Std.Format} {nc m M N a : Nat} (hm : m ≤ M) (i1 i2 i3 i4 i5 : Int32) (s0 s : c_S) (Y : rr_Y s0 s) (h : rr_E κ nc m M s) : k_ok (b_Rm_declaration_138 (c_M d) i1 i2 i3 i4 i5 s) (fun σ _ => rr_P M N a s0 σ) := by
  rw [e_Rm_declaration_138, x_takeD d hd _ s h.1, c_bd_some, if_neg (x_gt h.1)]
  have f : z_F [] [17, 59] [] s (c_put (c_put s 34 17 120000) 34 59 0) := z_F.puf (z_F.puf z_F.rf rfl) rfl
  exact rr_177D d hm i1 i2 i3 i4 i5 s0 _ (Y.tr (rr_Y.of f rfl)) (h.fld f rfl rfl)
theorem rr_104D (d : Nat) (hd : 2 ≤ d) {κ : Nat → Std.Format} {nc m M N a : Nat} (hm : m ≤ M) (i1 i2 i3 i4 : Int32) (s0 s : c_S) (Y : rr_Y s0 s) (h : rr_E κ nc m M s) : k_ok (b_Rm_declaration_104 (c_M d) i1 i2 i3 i4 s) (fun σ _ => rr_P M N a s0 σ) := by
  rw [e_Rm_declaration_104, x_signD d (by omega) _ s h.1, c_bd_some, if_pos rfl]
  exact rr_138D d hd hm i1 i2 i3 i4 0 s0 s Y h
/-- nodesAhead of the constant to come -/
theorem rr_put52 {κ : Nat → Std.Format} {nc m : Nat} {s : c_S} {x : Int32} (h : rr_W κ nc m s) : rr_W κ nc m (c_put s 52 nc x) := by
  have f : z_F [52] [] [] s (c_put s 52 nc x) := z_F.put z_F.rf rfl (by decide)
  obtain ⟨h1, h2, h3, h4, h5, h6⟩ := h
  exact ⟨h1.of (f.o rfl) (f.1 49 rfl (by decide)) (f.1 50 rfl (by decide)) (f.1 51 rfl (by decide)) (fun c hc => by rw [c_put_get, if_neg (by omega)]) (f.2.2 47 rfl) (f.2.2 48 rfl), by rw [f.2.1 21 rfl]; exact h2, h3.of f rfl, h4.of (f.1 35 rfl (by decide)), by rw [f.2.1 41 rfl]; exact h5, by rw [f.2.1 70 rfl]; exact h6⟩
/-- a fault at its name: at, takeSign, readWhole do nothing -/
theorem rr_62D (d : Nat) (hd : 4 ≤ d) {κ : Nat → Std.Format} {nc m M N a : Nat} (hm : m ≤ M) (i1 : Int32) (s0 s : c_S) (Y : rr_Y s0 s) (h : x_D M s) (hW : rr_W κ nc m s) (e16 : s.1 34 16 = nI m) : k_ok (b_Rm_declaration_62 (c_M d) i1 s) (fun σ _ => rr_P M N a s0 σ) := by
  have f : z_F [] [8] [] s (c_put s 34 8 ((s.1 34 8) + 1)) := z_F.puf z_F.rf rfl
  have h1 := h.of f rfl
  have W1 := hW.fld f rfl
  have hnc := hW.1.1
  rw [e_Rm_declaration_62, x_takeD d (by omega) _ _ h1, c_bd_some, W1.2.1, c_rg_nI (by omega) (by decide), nI_clamp (show nc < 2 ^ 31 by omega)]
  have e16' : (c_put s 34 8 ((s.1 34 8) + 1)).1 34 16 = nI m := by rw [f.2.1 16 rfl]; exact e16
  generalize c_put s 34 8 ((s.1 34 8) + 1) = s1 at f h1 W1 e16' ⊢
  have f2 : z_F [52] [] [] s1 (c_put s1 52 nc (s1.1 34 16)) := z_F.put z_F.rf rfl (by decide)
  have h2 : rr_E κ nc m M (c_put s1 52 nc (s1.1 34 16)) := ⟨h1.of2 f2 rfl rfl, rr_put52 W1, by rw [c_put_same]; exact e16'⟩
  obtain ⟨σ, es, f3, -⟩ := rr_rwD d (by omega) _ h2.1
  rw [es, c_bd_some]
  exact rr_104D d (by omega) hm _ _ _ _ s0 σ (Y.tr ((rr_Y.of f rfl).tr ((rr_Y.of f2 rfl).tr (rr_Y.of f3 rfl)))) (h2.fld f3 rfl rfl)
