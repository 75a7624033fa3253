/-! the reference checks: what stands between two steps of it -/
theorem x_T_rg {s σ : c_S} (h45 : σ.1 45 = s.1 45) : ∀ (lo k g h w n : Nat), (∀ i, lo ≤ i → i ≤ n → σ.1 40 i = s.1 40 i ∧ σ.1 41 i = s.1 41 i ∧ σ.1 42 i = s.1 42 i) → x_T s lo k g h w n → x_T σ lo k g h w n
  | _, 0, _, _, _, _, _, hx => hx.elim
  | lo, k + 1, g, h, w, n, ho, hx => by
    obtain ⟨h1, h2, h3⟩ := hx
    obtain ⟨e0, e1, e2⟩ := ho n (by omega) (Nat.le_refl _)
    refine ⟨h1, h2, ?_⟩
    rw [e0, e1, e2]
    rcases h3 with h3 | ⟨e, a, b, gg, hh1, w1, w2, q1, q0, q2, q3, q4, q5, q6, q7, q8⟩ | ⟨e, a, b, gg, w1, w2, q1, q2, q3, q4, q5, q6, q7, q8⟩
    · exact Or.inl h3
    · have l1 := x_T_lo q7
      have l2 := x_T_lo q8
      exact Or.inr (Or.inl ⟨e, a, b, gg, hh1, w1, w2, q1, q0, q2, q3, q4, q5, q6, x_T_rg h45 lo k gg hh1 w1 a (fun i i1 i2 => ho i i1 (by omega)) q7, x_T_rg h45 (a + 1) k gg hh1 w2 b (fun i i1 i2 => ho i (by omega) (by omega)) q8⟩)
    · have l1 := x_T_lo q7
      have l2 := x_T_lo q8
      have q61 := q6.1
      refine Or.inr (Or.inr ⟨e, a, b, gg, w1, w2, q1, q2, q3, q4, q5, ⟨q61, fun hk => ?_⟩, x_T_rg h45 lo k g h w1 a (fun i i1 i2 => ho i i1 (by omega)) q7, x_T_rg h45 (a + 1) k gg h w2 b (fun i i1 i2 => ho i (by omega) (by omega)) q8⟩)
      rw [h45]
      rw [(ho a (by omega) (by omega)).1] at hk
      exact q6.2 hk
def h_K (s : c_S) (κ : Nat → Std.Format) (nc : Nat) : Prop := ∀ c, c < nc → (s.1 49 c = 0 ∧ f_fin (κ c)) ∨ (¬ s.1 49 c = 0 ∧ ∃ τs, κ c = f_l τs f_t)
def h_bd (s : c_S) (κ : Nat → Std.Format) (nc : Nat) : List Std.Format → Prop
  | [] => True
  | τ :: Γ => (∃ b kk, s.1 65 Γ.length = nI b ∧ o_F s κ nc kk 37 Γ b τ) ∧ (s.1 64 Γ.length = -1 ∨ ∃ p, p < 4002 ∧ s.1 64 Γ.length = nI p) ∧ h_bd s κ nc Γ
/-- no fault: counts, types T, rows R, the context Γ -/
def h_S (κ : Nat → Std.Format) (nc M C L W t S T R : Nat) (Γ : List Std.Format) (s : c_S) : Prop :=
  (z_G s ∧ s.1 34 9 = 0 ∧ ∃ m, m ≤ M ∧ s.1 34 16 = nI m) ∧
  (s.1 34 30 = nI C ∧ s.1 34 33 = nI L ∧ s.1 34 36 = 0 ∧ s.1 34 40 = nI W ∧ W ≤ t) ∧
  (s.1 34 42 = nI t ∧ t ≤ 20000) ∧ (s.1 34 41 = nI S ∧ S ≤ 60000) ∧
  (s.1 34 17 = nI T ∧ 120000 ≤ T ∧ T ≤ 136000) ∧ s.1 34 59 = nI R ∧
  (w_K s κ nc ∧ h_K s κ nc ∧ s.1 34 21 = nI nc) ∧
  (s.1 34 55 = nI Γ.length ∧ h_bd s κ nc Γ ∧ ∃ k, w_W s κ nc C L W k (.inr (s.1 34 54)) Γ)
/-- a fault -/
def h_D (M : Nat) (s : c_S) : Prop := x_D M s ∧ (∃ S, S ≤ 60000 ∧ s.1 34 41 = nI S) ∧ (∃ R, R ≤ 700 ∧ s.1 34 59 = nI R)
/-- what checking leaves as it was: all nodes but lo .. n, what lies below the counts -/
def h_fr (lo n C L W T R b : Nat) (s σ : c_S) : Prop := z_F [40, 41, 42, 53, 54, 55, 56, 57, 58, 59, 60, 61, 62, 63, 64, 65, 66] [9, 17, 30, 33, 36, 40, 41, 42, 43, 44, 45, 46, 47, 48, 51, 52, 53, 54, 55, 59, 60, 61, 62] [] s σ ∧ w_ag C L W s σ ∧ (∀ i, i < T → (i < lo ∨ n < i) → σ.1 40 i = s.1 40 i ∧ σ.1 41 i = s.1 41 i ∧ σ.1 42 i = s.1 42 i) ∧ (∀ i, i < b → σ.1 64 i = s.1 64 i ∧ σ.1 65 i = s.1 65 i) ∧ (∀ i, i < R → σ.1 66 i = s.1 66 i)
def h_ex (lo n C L W T R b : Nat) (s σ : c_S) : Prop := h_fr lo n C L W T R b s σ ∧ σ.1 34 54 = s.1 34 54 ∧ σ.1 34 55 = s.1 34 55
theorem h_fr.rf {lo n C L W T R b : Nat} {s : c_S} : h_fr lo n C L W T R b s s := ⟨z_F.rf, w_ag.rf, fun _ _ _ => ⟨rfl, rfl, rfl⟩, fun _ _ => ⟨rfl, rfl⟩, fun _ _ => rfl⟩
theorem h_ex.rf {lo n C L W T R b : Nat} {s : c_S} : h_ex lo n C L W T R b s s := ⟨h_fr.rf, rfl, rfl⟩
theorem h_fr.le {lo n C L W T R b lo' n' C' L' W' T' R' b' : Nat} {s σ : c_S} (k : h_fr lo' n' C' L' W' T' R' b' s σ) (q1 : lo ≤ lo') (q2 : n' ≤ n) (h1 : C ≤ C') (h2 : L ≤ L') (h3 : W ≤ W') (h4 : T ≤ T') (h5 : R ≤ R') (h6 : b ≤ b') : h_fr lo n C L W T R b s σ :=
  ⟨k.1, k.2.1.le h1 h2 h3, fun i hi hh => k.2.2.1 i (by omega) (by omega), fun i hi => k.2.2.2.1 i (by omega), fun i hi => k.2.2.2.2 i (by omega)⟩
theorem h_fr.tr {lo n C L W T R b C' L' W' T' R' b' : Nat} {s t u : c_S} (h : h_fr lo n C L W T R b s t) (k : h_fr lo n C' L' W' T' R' b' t u) (h1 : C ≤ C') (h2 : L ≤ L') (h3 : W ≤ W') (h4 : T ≤ T') (h5 : R ≤ R') (h6 : b ≤ b') : h_fr lo n C L W T R b s u :=
  ⟨z_F.tr h.1 k.1, h.2.1.tr (k.2.1.le h1 h2 h3), fun i hi hh => by
    obtain ⟨a1, a2, a3⟩ := h.2.2.1 i hi hh
    obtain ⟨b1, b2, b3⟩ := k.2.2.1 i (by omega) hh
    exact ⟨b1.trans a1, b2.trans a2, b3.trans a3⟩, fun i hi => ⟨(k.2.2.2.1 i (by omega)).1.trans (h.2.2.2.1 i hi).1, (k.2.2.2.1 i (by omega)).2.trans (h.2.2.2.1 i hi).2⟩, fun i hi => (k.2.2.2.2 i (by omega)).trans (h.2.2.2.2 i hi)⟩
theorem h_ex.tr {lo n C L W T R b C' L' W' T' R' b' : Nat} {s t u : c_S} (h : h_ex lo n C L W T R b s t) (k : h_ex lo n C' L' W' T' R' b' t u) (h1 : C ≤ C') (h2 : L ≤ L') (h3 : W ≤ W') (h4 : T ≤ T') (h5 : R ≤ R') (h6 : b ≤ b') : h_ex lo n C L W T R b s u :=
  ⟨h.1.tr k.1 h1 h2 h3 h4 h5 h6, k.2.1.trans h.2.1, k.2.2.trans h.2.2⟩
theorem h_ex.le {lo n C L W T R b lo' n' C' L' W' T' R' b' : Nat} {s σ : c_S} (k : h_ex lo' n' C' L' W' T' R' b' s σ) (q1 : lo ≤ lo') (q2 : n' ≤ n) (h1 : C ≤ C') (h2 : L ≤ L') (h3 : W ≤ W') (h4 : T ≤ T') (h5 : R ≤ R') (h6 : b ≤ b') : h_ex lo n C L W T R b s σ := ⟨k.1.le q1 q2 h1 h2 h3 h4 h5 h6, k.2⟩
theorem h_fr.fld {lo n C L W T R b : Nat} {s σ : c_S} (f : z_F [] [9, 17, 30, 33, 36, 40, 41, 42, 43, 44, 45, 46, 47, 48, 51, 52, 53, 54, 55, 59, 60, 61, 62] [] s σ) : h_fr lo n C L W T R b s σ :=
  ⟨z_F.mono f rfl, ⟨o_ag.of f rfl, fun h _ => by rw [f.1 53 rfl (by decide), f.1 54 rfl (by decide)]; exact ⟨rfl, rfl⟩, fun h _ => by rw [f.1 55 rfl (by decide), f.1 56 rfl (by decide)]; exact ⟨rfl, rfl⟩, fun h _ => by rw [f.1 59 rfl (by decide), f.1 60 rfl (by decide)]; exact ⟨rfl, rfl⟩⟩, fun i _ _ => by rw [f.1 40 rfl (by decide), f.1 41 rfl (by decide), f.1 42 rfl (by decide)]; exact ⟨rfl, rfl, rfl⟩, fun i _ => by rw [f.1 64 rfl (by decide), f.1 65 rfl (by decide)]; exact ⟨rfl, rfl⟩, fun i _ => by rw [f.1 66 rfl (by decide)]⟩
theorem h_ex.fld {lo n C L W T R b : Nat} {s σ : c_S} (f : z_F [] [9, 17, 30, 33, 36, 40, 41, 42, 43, 44, 45, 46, 47, 48, 51, 52, 53, 59, 60, 61, 62] [] s σ) : h_ex lo n C L W T R b s σ := ⟨h_fr.fld (z_F.mono f rfl), f.2.1 54 rfl, f.2.1 55 rfl⟩
theorem v_ex.h {lo n C L B W T R b : Nat} {s σ : c_S} (h : v_ex C L B W s σ) : h_ex lo n C L W T R b s σ :=
  ⟨⟨z_F.mono h.1 rfl, h.2.1, fun i _ _ => by rw [h.1.1 40 rfl (by decide), h.1.1 41 rfl (by decide), h.1.1 42 rfl (by decide)]; exact ⟨rfl, rfl, rfl⟩, fun i _ => by rw [h.1.1 64 rfl (by decide), h.1.1 65 rfl (by decide)]; exact ⟨rfl, rfl⟩, fun i _ => by rw [h.1.1 66 rfl (by decide)]⟩, h.1.2.1 54 rfl, h.1.2.1 55 rfl⟩
theorem h_fr.K {lo n C L W T R b : Nat} {s σ : c_S} (h : h_fr lo n C L W T R b s σ) {κ : Nat → Std.Format} {nc : Nat} (hK : w_K s κ nc) : w_K σ κ nc := w_K_ag hK h.2.1.1 (h.1.1 50 rfl (by decide)) (h.1.1 51 rfl (by decide))
theorem h_fr.hK {lo n C L W T R b : Nat} {s σ : c_S} (h : h_fr lo n C L W T R b s σ) {κ : Nat → Std.Format} {nc : Nat} (hK : h_K s κ nc) : h_K σ κ nc := fun c hc => by rw [h.1.1 49 rfl (by decide)]; exact hK c hc
theorem h_bd_fr {lo n C L W T R b : Nat} {s σ : c_S} (h : h_fr lo n C L W T R b s σ) {κ : Nat → Std.Format} {nc : Nat} : ∀ (Γ : List Std.Format), Γ.length ≤ b → h_bd s κ nc Γ → h_bd σ κ nc Γ
  | [], _, _ => trivial
  | τ :: Γ, hl, hx => by
    rw [List.length_cons] at hl
    obtain ⟨⟨x, kk, q1, q2⟩, q3, q4⟩ := hx
    obtain ⟨e1, e2⟩ := h.2.2.2.1 Γ.length (by omega)
    exact ⟨⟨x, kk, e2.trans q1, o_F_ag h.2.1.1 kk 37 Γ x τ q2⟩, by rw [e1]; exact q3, h_bd_fr h Γ (by omega) q4⟩
theorem h_fr.W {lo n C L W T R b C' L' W' : Nat} {s σ : c_S} (h : h_fr lo n C L W T R b s σ) {κ : Nat → Std.Format} {nc k k' : Nat} {x : Nat ⊕ Int32} {Γ : List Std.Format} (hb : w_W s κ nc C L W k x Γ) (hk : k ≤ k') (h1 : C ≤ C') (h2 : L ≤ L') (h4 : W ≤ W') : w_W σ κ nc C' L' W' k' x Γ := w_W_up h1 h2 h4 k k' x Γ hk (w_W_ag h.2.1 k x Γ hb)
theorem h_fr.F {lo n C L W T R b : Nat} {s σ : c_S} (h : h_fr lo n C L W T R b s σ) {κ : Nat → Std.Format} {nc k y m : Nat} {Γ : List Std.Format} {τ : Std.Format} (hY : o_F s κ nc k y Γ m τ) : o_F σ κ nc k y Γ m τ := o_F_ag h.2.1.1 k y Γ m τ hY
theorem h_fr.O {lo n C L W T R b : Nat} {s σ : c_S} (h : h_fr lo n C L W T R b s σ) {κ : Nat → Std.Format} {nc k y m : Nat} {Γ : List Std.Format} {τ : Std.Format} (hY : o_T s κ nc k y Γ m τ) : o_T σ κ nc k y Γ m τ := o_T_ag h.2.1.1 k y Γ m τ hY
theorem h_fr.T {lo n C L W T R b : Nat} {s σ : c_S} (h : h_fr lo n C L W T R b s σ) {lo2 k g hh w m : Nat} (hT : 120000 ≤ T) (hx : x_T s lo2 k g hh w m) (hd : n < lo2 ∨ m < lo) : x_T σ lo2 k g hh w m := by
  have := x_T_lo hx
  exact x_T_rg (h.1.1 45 rfl (by decide)) lo2 k g hh w m (fun i i1 i2 => h.2.2.1 i (by omega) (by omega)) hx
theorem h_fr.Y {lo n C L W T R b T' : Nat} {s σ : c_S} (h : h_fr lo n C L W T R b s σ) (hn : n < 120000) (e1 : s.1 34 17 = nI T) (e2 : σ.1 34 17 = nI T') (hT : T ≤ T') (hT' : T' ≤ 136000) {κ : Nat → Std.Format} {nc : Nat} : ∀ (k y : Nat) (Γ : List Std.Format) (m : Nat) (τ : Std.Format), o_Y s κ nc k y Γ m τ → o_Y σ κ nc k y Γ m τ
  | 0, _, _, _, _, hx => hx.elim
  | k + 1, y, Γ, m, τ, hx => by
    obtain ⟨⟨h1, h2⟩, hx⟩ := hx
    rw [e1, nI_clamp (show T < 2 ^ 31 by omega)] at h2
    have same : ¬ s.1 40 m = 0 → σ.1 40 m = s.1 40 m ∧ σ.1 41 m = s.1 41 m ∧ σ.1 42 m = s.1 42 m := by
      intro h0
      by_cases hm : m < 120000
      · exact h.2.1.1 m hm h0
      · exact h.2.2.1 m (by omega) (by omega)
    refine ⟨⟨h1, by rw [e2, nI_clamp (show T' < 2 ^ 31 by omega)]; omega⟩, ?_⟩
    rcases hx with ⟨kk, hh, q1, q2⟩ | ⟨e, i, x, kk, q1, q2, q3, q4, q5⟩ | ⟨e, c, q1, q2, q3⟩ | ⟨e, a, x, s', r, kk, q1, q2, q3, q4, q5⟩ | ⟨e, a, x, s', y', kk, hh, q1, q2, q3, q4, q5, q6, q7⟩
    · exact Or.inl ⟨kk, hh, q1, h.F q2⟩
    · obtain ⟨a0, a1, a2⟩ := same (by rw [e]; decide)
      exact Or.inr (Or.inl ⟨a0.trans e, i, x, kk, q1, q2, a1.trans q3, a2.trans q4, h.F q5⟩)
    · obtain ⟨a0, a1, a2⟩ := same (by rw [e]; decide)
      exact Or.inr (Or.inr (Or.inl ⟨a0.trans e, c, a1.trans q1, q2, q3⟩))
    · obtain ⟨a0, a1, a2⟩ := same (by rw [e]; decide)
      exact Or.inr (Or.inr (Or.inr (Or.inl ⟨a0.trans e, a, x, s', r, kk, a1.trans q1, a2.trans q2, q3, h.F q4, h.Y hn e1 e2 hT hT' k y _ x r q5⟩)))
    · obtain ⟨a0, a1, a2⟩ := same (by rw [e]; decide)
      exact Or.inr (Or.inr (Or.inr (Or.inr ⟨a0.trans e, a, x, s', y', kk, hh, q1, a1.trans q2, a2.trans q3, q4, q5, h.O q6, h.Y hn e1 e2 hT hT' k y' Γ a _ q7⟩)))
theorem h_S.to {κ : Nat → Std.Format} {nc M C L W t S T R lo n R0 T0 C' L' W' t' S' T' R' : Nat} {Γ : List Std.Format} {s σ : c_S} (h : h_S κ nc M C L W t S T R Γ s) (x : h_ex lo n C L W T0 R0 Γ.length s σ) (hC : C ≤ C') (hL : L ≤ L') (hW : W ≤ W') (hWt : W' ≤ t') (e9 : σ.1 34 9 = 0) (e30 : σ.1 34 30 = nI C') (e33 : σ.1 34 33 = nI L') (e36 : σ.1 34 36 = 0) (e40 : σ.1 34 40 = nI W') (e42 : σ.1 34 42 = nI t') (ht : t' ≤ 20000) (e41 : σ.1 34 41 = nI S') (hS : S' ≤ 60000) (e17 : σ.1 34 17 = nI T') (hT : 120000 ≤ T' ∧ T' ≤ 136000) (e59 : σ.1 34 59 = nI R') : h_S κ nc M C' L' W' t' S' T' R' Γ σ := by
  obtain ⟨⟨a1, a2, m, a3, a4⟩, b, c, d, e, f, ⟨g1, g2, g3⟩, i1, i2, k, i3⟩ := h
  obtain ⟨x0, x54, x55⟩ := x
  exact ⟨⟨a1.of x0.1 rfl, e9, m, a3, by rw [x0.1.2.1 16 rfl]; exact a4⟩, ⟨e30, e33, e36, e40, hWt⟩, ⟨e42, ht⟩, ⟨e41, hS⟩, ⟨e17, hT⟩, e59, ⟨x0.K g1, x0.hK g2, by rw [x0.1.2.1 21 rfl]; exact g3⟩, by rw [x55]; exact i1, h_bd_fr x0 Γ (Nat.le_refl _) i2, k, by rw [x54]; exact x0.W i3 (Nat.le_refl _) hC hL hW⟩
