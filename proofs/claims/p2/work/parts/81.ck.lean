theorem h_S.ttl {κ : Nat → Std.Format} {nc M C L W t S T R t' S' : Nat} {Γ : List Std.Format} {s σ : c_S} (h : h_S κ nc M C L W t S T R Γ s) (f : z_F [] [41, 42] [] s σ) (ht : t ≤ t') (e42 : σ.1 34 42 = nI t') (h2 : t' ≤ 20000) (e41 : σ.1 34 41 = nI S') (hS : S' ≤ 60000) : h_S κ nc M C L W t' S' T R Γ σ := by
  obtain ⟨⟨a1, a2, m, a3, a4⟩, ⟨b1, b2, b3, b4, b5⟩, c, d, ⟨e1, e2⟩, f1, g, i⟩ := id h
  exact h.to (lo := 0) (n := 0) (T0 := 0) (R0 := 0) (h_ex.fld (z_F.mono f rfl)) (Nat.le_refl _) (Nat.le_refl _) (Nat.le_refl _) (by omega) (by rw [f.2.1 9 rfl]; exact a2) (by rw [f.2.1 30 rfl]; exact b1) (by rw [f.2.1 33 rfl]; exact b2) (by rw [f.2.1 36 rfl]; exact b3) (by rw [f.2.1 40 rfl]; exact b4) e42 h2 e41 hS (by rw [f.2.1 17 rfl]; exact e1) e2 (by rw [f.2.1 59 rfl]; exact f1)
theorem h_D.of {κ : Nat → Std.Format} {nc M C L W t S T R : Nat} {Γ : List Std.Format} {s σ : c_S} (h : h_S κ nc M C L W t S T R Γ s) (hR : R ≤ 700) (f : z_F [] [9] [] s σ) (hx : x_D M σ) : h_D M σ :=
  ⟨hx, ⟨S, h.2.2.2.1.2, by rw [f.2.1 41 rfl]; exact h.2.2.2.1.1⟩, ⟨R, hR, by rw [f.2.1 59 rfl]; exact h.2.2.2.2.2.1⟩⟩
theorem h_wrong (d : Nat) (hd : 1 ≤ d) {κ : Nat → Std.Format} {nc M C L W t S T R : Nat} {Γ : List Std.Format} (k : Int32) (hk : 1 ≤ k.toInt ∧ k.toInt ≤ 11) (p : Nat) (hp : p < 4002) (s : c_S) (h : h_S κ nc M C L W t S T R Γ s) (hR : R ≤ 700) : k_ok (c_M d 25 [v_r 34, v_i k, v_i (nI p)] s) (fun σ _ => z_F [] [9] [] s σ ∧ h_D M σ) := by
  obtain ⟨⟨a1, a2, m, a3, a4⟩, -⟩ := id h
  exact k_mono (x_wrong d hd (M := M) k hk p hp s a1 a2 a4 a3) (fun σ r g => ⟨g.1, h_D.of h hR g.1 g.2⟩)
theorem h_stepAt (d : Nat) (hd : 3 ≤ d) {κ : Nat → Std.Format} {nc M C L W t S T R : Nat} {Γ : List Std.Format} (p : Nat) (hp : p < 4002) (s : c_S) (h : h_S κ nc M C L W t S T R Γ s) (hR : R ≤ 700) : k_ok (c_M d 46 [v_r 34, v_i (nI p)] s) (fun σ _ => z_F [] [9, 41, 42] [] s σ ∧ (h_D M σ ∨ h_S κ nc M C L W (t + 1) (S + 1) T R Γ σ)) := by
  obtain ⟨d, rfl⟩ : ∃ e, d = e + 1 := ⟨d - 1, by omega⟩
  obtain ⟨⟨a1, a2, m, a3, a4⟩, ⟨b1, b2, b3, b4, b5⟩, c, e, -⟩ := id h
  rw [m_Rm_stepAt, e_Rm_stepAt_0, if_pos a2]
  rcases w_step d (by omega) s t S c.2 e.2 c.1 e.1 with hs | ⟨σ, t1, S1, hs, f, e42, e41⟩
  · rw [hs, c_bd_some, if_pos rfl]
    exact k_bd (h_wrong d (by omega) 9 (by decide) p hp s h hR) (fun σ r g => k_some ⟨z_F.mono g.1 rfl, Or.inl g.2⟩)
  · rw [hs, c_bd_some, if_neg (by decide)]
    exact k_some ⟨z_F.mono f rfl, Or.inr (h.ttl f (by omega) e42 (by omega) e41 (by omega))⟩
theorem h_const_4 (d : Nat) (p nc : Nat) (hp : p < 4002) (hnc : nc ≤ 100) (s : c_S) (e : s.1 34 21 = nI nc) : ∀ (m j : Nat) (r : Int32), nc ≤ j + m → j ≤ nc → (r = -1 ∨ ∃ c, c < nc ∧ r = nI c) → ∃ r', b_Rm_constantOf_4 (c_M d) (nI p) r (nI j) s = some (s, r') ∧ (r' = -1 ∨ ∃ c, c < nc ∧ r' = nI c)
  | 0, j, r, hm, hj, hr => by
    have : j = nc := by omega
    subst this
    rw [e_Rm_constantOf_4, e, if_neg (nI_nlt (Nat.le_refl _) (by omega))]
    exact ⟨r, rfl, hr⟩
  | m + 1, j, r, hm, hj, hr => by
    rw [e_Rm_constantOf_4, e]
    by_cases h : j < nc
    · rw [if_pos (nI_lt h (by omega)), c_rg_nI (by omega) (by decide), c_rg_nI hp (by decide), c_rg_nI (by omega) (by decide), c_rg_nI hp (by decide), nI_1]
      split
      · split
        · exact h_const_4 d p nc hp hnc s e m (j + 1) (nI j) (by omega) (by omega) (Or.inr ⟨j, h, rfl⟩)
        · exact h_const_4 d p nc hp hnc s e m (j + 1) r (by omega) (by omega) hr
      · exact h_const_4 d p nc hp hnc s e m (j + 1) r (by omega) (by omega) hr
    · rw [if_neg (nI_nlt (by omega) (by omega))]
      exact ⟨r, rfl, hr⟩
theorem h_const (d : Nat) (hd : 1 ≤ d) (p nc : Nat) (hp : p < 4002) (hnc : nc ≤ 100) (s : c_S) (e : s.1 34 21 = nI nc) : ∃ r, c_M d 40 [v_r 34, v_i (nI p)] s = some (s, r) ∧ (r = -1 ∨ ∃ c, c < nc ∧ r = nI c) := by
  obtain ⟨d, rfl⟩ : ∃ e, d = e + 1 := ⟨d - 1, by omega⟩
  rw [m_Rm_constantOf, e_Rm_constantOf_0]
  exact h_const_4 d p nc hp hnc s e nc 0 (-1) (by omega) (by omega) (Or.inl rfl)
theorem h_bd_var {s : c_S} {κ : Nat → Std.Format} {nc : Nat} : ∀ (Γ : List Std.Format) (j : Nat), j < Γ.length → h_bd s κ nc Γ → s.1 64 j = -1 ∨ ∃ p, p < 4002 ∧ s.1 64 j = nI p
  | [], j, hj, _ => absurd hj (by simp)
  | τ :: Γ, j, hj, hx => by
    rw [List.length_cons] at hj
    by_cases e : j = Γ.length
    · rw [e]; exact hx.2.1
    · exact h_bd_var Γ j (by omega) hx.2.2
theorem h_bd_type {s : c_S} {κ : Nat → Std.Format} {nc : Nat} : ∀ (Γ : List Std.Format) (i : Nat), i < Γ.length → h_bd s κ nc Γ → ∃ b kk τ, s.1 65 (Γ.length - 1 - i) = nI b ∧ Γ[i]? = some τ ∧ o_F s κ nc kk 37 (Γ.drop (i + 1)) b τ
  | [], i, hi, _ => absurd hi (by simp)
  | τ :: Γ, 0, hi, hx => by
    obtain ⟨⟨b, kk, q1, q2⟩, -, -⟩ := hx
    exact ⟨b, kk, τ, by simpa using q1, rfl, q2⟩
  | τ :: Γ, i + 1, hi, hx => by
    rw [List.length_cons] at hi
    obtain ⟨b, kk, τ', q1, q2, q3⟩ := h_bd_type Γ i (by omega) hx.2.2
    refine ⟨b, kk, τ', ?_, q2, q3⟩
    rw [List.length_cons, show Γ.length + 1 - 1 - (i + 1) = Γ.length - 1 - i by omega]
    exact q1
theorem h_fnd {C L W T R b n : Nat} {s : c_S} (h0 : s.1 40 n = 0) (x y : Int32) : h_ex n n C L W T R b s (c_put (c_put s 40 n x) 41 n y) := by
  have f : z_F [40, 41] [] [] s (c_put (c_put s 40 n x) 41 n y) := z_F.put (z_F.put z_F.rf rfl (by decide)) rfl (by decide)
  have ho : ∀ m, m ≠ n → (c_put (c_put s 40 n x) 41 n y).1 40 m = s.1 40 m ∧ (c_put (c_put s 40 n x) 41 n y).1 41 m = s.1 41 m ∧ (c_put (c_put s 40 n x) 41 n y).1 42 m = s.1 42 m := fun m hm => ⟨by rw [c_put_off (by decide), c_put_get, if_neg hm], by rw [c_put_get, if_neg hm, c_put_off (by decide)], by rw [c_put_off (by decide), c_put_off (by decide)]⟩
  refine ⟨⟨z_F.mono f rfl, ⟨fun m _ hm => ho m (fun e => hm (by rw [e]; exact h0)), fun h _ => by rw [f.1 53 rfl (by decide), f.1 54 rfl (by decide)]; exact ⟨rfl, rfl⟩, fun h _ => by rw [f.1 55 rfl (by decide), f.1 56 rfl (by decide)]; exact ⟨rfl, rfl⟩, fun h _ => by rw [f.1 59 rfl (by decide), f.1 60 rfl (by decide)]; exact ⟨rfl, rfl⟩⟩, fun i _ hi => ho i (by omega), fun i _ => by rw [f.1 64 rfl (by decide), f.1 65 rfl (by decide)]; exact ⟨rfl, rfl⟩, fun i _ => by rw [f.1 66 rfl (by decide)]⟩, f.2.1 54 rfl, f.2.1 55 rfl⟩
theorem h_S.nod {κ : Nat → Std.Format} {nc M C L W t S T R lo n T0 R0 : Nat} {Γ : List Std.Format} {s σ : c_S} (h : h_S κ nc M C L W t S T R Γ s) (x : h_ex lo n C L W T0 R0 Γ.length s σ) (f : ∀ j, σ.1 34 j = s.1 34 j) : h_S κ nc M C L W t S T R Γ σ := by
  obtain ⟨⟨a1, a2, m, a3, a4⟩, ⟨b1, b2, b3, b4, b5⟩, c, d, ⟨e1, e2⟩, f1, g, i⟩ := id h
  exact h.to x (Nat.le_refl _) (Nat.le_refl _) (Nat.le_refl _) b5 ((f 9).trans a2) ((f 30).trans b1) ((f 33).trans b2) ((f 36).trans b3) ((f 40).trans b4) ((f 42).trans c.1) c.2 ((f 41).trans d.1) d.2 ((f 17).trans e1) e2 ((f 59).trans f1)
/-- what find leaves -/
def h_fP (κ : Nat → Std.Format) (nc M C L W t S T R n : Nat) (Γ : List Std.Format) (s σ : c_S) : Prop := h_ex n n C L W T R Γ.length s σ ∧ (h_D M σ ∨ (h_S κ nc M C L W t S T R Γ σ ∧ ((∃ i, i < Γ.length ∧ σ.1 40 n = 2 ∧ σ.1 41 n = nI i) ∨ (∃ c, c < nc ∧ σ.1 40 n = 3 ∧ σ.1 41 n = nI c))))
set_option maxHeartbeats 1000000 in
theorem h_find_32 (d : Nat) (hd : 1 ≤ d) {κ : Nat → Std.Format} {nc M C L W t S T R : Nat} {Γ : List Std.Format} (n p : Nat) (hn : n < 120000) (hp : p < 4002) (s : c_S) (h : h_S κ nc M C L W t S T R Γ s) (hR : R ≤ 700) (hΓ : Γ.length ≤ 38) (h0 : s.1 40 n = 0) : ∀ j, j ≤ Γ.length → k_ok (b_Rm_find_32 (c_M d) (nI n) (nI p) (nI j - 1) s) (fun σ _ => h_fP κ nc M C L W t S T R n Γ s σ)
  | 0, _ => by
    obtain ⟨-, -, -, -, -, -, ⟨g1, g2, g3⟩, -⟩ := id h
    rw [e_Rm_find_32, if_pos (by decide)]
    obtain ⟨r, er, hr⟩ := h_const d hd p nc hp g1.1 s g3
    have hnc := g1.1
    rw [er, c_bd_some]
    rcases hr with rfl | ⟨c, hc, rfl⟩
    · rw [if_pos (by decide)]
      exact k_bd (h_wrong d hd 2 (by decide) p hp s h hR) (fun σ r g => k_some ⟨h_ex.fld (z_F.mono g.1 rfl), Or.inl g.2⟩)
    · rw [if_neg (nI_pos (by omega)), c_rg_nI (by omega) (by decide), c_rg_nI (by omega) (by decide), nI_clamp (show n < 2 ^ 31 by omega)]
      have x := h_fnd (C := C) (L := L) (W := W) (T := T) (R := R) (b := Γ.length) h0 3 (nI c)
      exact k_some ⟨x, Or.inr ⟨h.nod x (fun j => by rw [c_put_off (by decide), c_put_off (by decide)]), Or.inr ⟨c, hc, by rw [c_put_off (by decide), c_put_same], c_put_same⟩⟩⟩
  | j + 1, hj => by
    obtain ⟨-, -, -, -, -, -, -, ⟨i1, i2, -⟩⟩ := id h
    have ih := h_find_32 d hd n p hn hp s h hR hΓ h0 j (by omega)
    rw [e_Rm_find_32, nI_pred, if_neg (nI_pos (by omega)), c_rg_nI (by omega) (by decide), nI_clamp (show j < 2 ^ 31 by omega), i32_m1]
    rcases h_bd_var Γ j (by omega) i2 with e | ⟨v, hv, e⟩
    · rw [e, if_pos (by decide)]; exact ih
    · rw [e, if_neg (nI_pos (by omega)), c_rg_nI hv (by decide), c_rg_nI hp (by decide), c_rg_nI hv (by decide), c_rg_nI hp (by decide)]
      refine k_if (fun _ => k_if (fun _ => ?_) (fun _ => ih)) (fun _ => ih)
      obtain ⟨l, hl⟩ : ∃ l, Γ.length = l + 1 := ⟨Γ.length - 1, by omega⟩
      rw [c_rg_nI (by omega) (by decide), c_rg_nI (by omega) (by decide), nI_clamp (show n < 2 ^ 31 by omega), i1, hl, nI_pred, nI_sub (by omega) (by omega)]
      have x := h_fnd (C := C) (L := L) (W := W) (T := T) (R := R) (b := Γ.length) h0 2 (nI (l - j))
      exact k_some ⟨x, Or.inr ⟨h.nod x (fun j => by rw [c_put_off (by decide), c_put_off (by decide)]), Or.inl ⟨l - j, by omega, by rw [c_put_off (by decide), c_put_same], c_put_same⟩⟩⟩
theorem h_fP.pre {κ : Nat → Std.Format} {nc M C L W t S T R n : Nat} {Γ : List Std.Format} {s s1 σ : c_S} (g : h_fP κ nc M C L W t S T R n Γ s1 σ) (x : h_ex n n C L W T R Γ.length s s1) : h_fP κ nc M C L W t S T R n Γ s σ :=
  ⟨x.tr g.1 (Nat.le_refl _) (Nat.le_refl _) (Nat.le_refl _) (Nat.le_refl _) (Nat.le_refl _) (Nat.le_refl _), g.2⟩
theorem h_find (d : Nat) (hd : 4 ≤ d) {κ : Nat → Std.Format} {nc M C L W t S T R : Nat} {Γ : List Std.Format} (n : Nat) (hn : n < 120000) (s : c_S) (h : h_S κ nc M C L W t S T R Γ s) (hR : R ≤ 700) (hΓ : Γ.length ≤ 38) (h0 : s.1 40 n = 0) : k_ok (c_M d 66 [v_r 34, v_i (nI n)] s) (fun σ _ => h_fP κ nc M C L W (t + 1) (S + 1) T R n Γ s σ) := by
  obtain ⟨d, rfl⟩ : ∃ e, d = e + 1 := ⟨d - 1, by omega⟩
  obtain ⟨p, hp, ep⟩ := (h.1.1.2.2 n).1
  rw [m_Rm_find, e_Rm_find_0, c_rg_nI (by omega) (by decide), nI_clamp (show n < 2 ^ 31 by omega), ep]
  refine k_bd (h_stepAt d (by omega) p hp s h hR) (fun s1 x1 g1 => ?_)
  obtain ⟨f1, D1 | h1⟩ := g1
  · rw [if_pos D1.1.2.1]
    exact k_some ⟨h_ex.fld (z_F.mono f1 rfl), Or.inl D1⟩
  · rw [if_neg (by rw [h1.1.2.1]; decide), c_rg_nI (by omega) (by decide), f1.1 43 rfl (by decide), ep, h1.2.2.2.2.2.2.2.1]
    exact k_mono (h_find_32 d (by omega) n p hn hp s1 h1 hR hΓ (by rw [f1.1 40 rfl (by decide)]; exact h0) Γ.length (Nat.le_refl _)) (fun σ r g => g.pre (h_ex.fld (z_F.mono f1 rfl)))
