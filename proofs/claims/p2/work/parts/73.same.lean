/-! EQUAL in the reference: the room that a question takes -/
def e_rm (C L B W t q y : Nat) : Prop := C + 4 * (20000 - t) + y + 154 * (101 - q) ≤ 400000 ∧ B + 19 * (20000 - t) + 154 * (101 - q) ≤ 400000 ∧ L + 3 * (20000 - t) + y ≤ 400000 ∧ W + (20000 - t) ≤ 24000
def e_cr (C L B W t q y C' L' B' W' t' : Nat) : Prop := C ≤ C' ∧ L ≤ L' ∧ B ≤ B' ∧ W ≤ W' ∧ t ≤ t' ∧ t' ≤ 20000 ∧ C' + 4 * t ≤ C + 4 * t' + y + 154 * (101 - q) ∧ B' + 19 * t ≤ B + 19 * t' + 154 * (101 - q) ∧ L' + 3 * t ≤ L + 3 * t' + y ∧ W' + t ≤ W + t'
/-- what a question leaves; G what its yes leaves over -/
def e_P (C L B W t q y : Nat) (G : Nat → Nat → Nat → Nat → Prop) (s σ : c_S) (r : Int32) : Prop := v_ex C L B W s σ ∧ ∃ C' L' B' W' t' S', v_S C' L' B' W' t' S' q σ ∧ e_cr C L B W t q y C' L' B' W' t' ∧ ((r = 1 ∧ G C' L' B' t') ∨ (¬ r = 1 ∧ (r = 0 ∨ r = 9 ∨ r = 10)))
/-- two objects behind which stand rows of the types ρs are asked by the type n -/
def e_O (κ : Nat → Std.Format) (nc d q : Nat) : Prop := ∀ (C L B W t S y ky k n c e kc ke : Nat) (Γ ρs : List Std.Format) (τ : Std.Format) (l a b : Int32) (s : c_S), v_S C L B W t S q s → w_K s κ nc → f_ok τ → f_fin τ → o_Y s κ nc ky y Γ n τ → w_W s κ nc C L W k (.inr l) Γ → w_B s κ nc C L W B a ρs → w_B s κ nc C L W B b ρs → w_W s κ nc C L W kc (.inl c) [f_l ρs τ] → w_W s κ nc C L W ke (.inl e) [f_l ρs τ] → ρs.length + f_n τ ≤ 76 → y ≤ 16000 → e_rm C L B W t q y → k_ok (c_M d 60 [v_r 34, v_i (nI c), v_i a, v_i (nI e), v_i b, v_i (nI n), v_i l] s) (e_P C L B W t q y (fun C' L' B' t' => C' + 2 + 4 * t ≤ C + 4 * t' + y ∧ L' + 1 + 3 * t ≤ L + 3 * t' + y ∧ (ρs.length + f_n τ ≤ 37 → B' + 19 + (ρs.length + f_n τ) * (37 - (ρs.length + f_n τ)) + ρs.length * ρs.length + 19 * t ≤ B + 19 * t' + 18 * ρs.length)) s)
theorem v_S.sh {κ : Nat → Std.Format} {nc C L B W t S q z : Nat} {τ : Std.Format} {s σ : c_S} {r : Int32} (hv : v_S C L B W t S q s) (g : w_sP κ nc C L W z τ s σ r) : ∃ C' L', v_S C' L' B W t S q σ ∧ v_ex C L B W s σ ∧ C ≤ C' ∧ L ≤ L' ∧ c_bz r = true ∧ w_sh κ nc C' L' W (C + z) (L + z) τ σ r := by
  obtain ⟨⟨u1, u2, u3, u4, u5⟩, v1, v2, v3⟩ := hv
  obtain ⟨g1, g2, g3, C', L', g4, g5, g6, g7, g10⟩ := g
  exact ⟨C', L', ⟨⟨g4, g5, by rw [g1.2.1 36 rfl]; exact u3, ⟨by rw [g1.2.1 42 rfl]; exact u4.1, u4.2⟩, ⟨by rw [g1.2.1 41 rfl]; exact u5.1, u5.2⟩⟩, by rw [g1.2.1 40 rfl]; exact v1, by rw [g1.2.1 53 rfl]; exact v2, v3⟩, ⟨z_F.mono g1 rfl, g2, fun i _ => by rw [g1.1 57 rfl (by decide), g1.1 58 rfl (by decide)]; exact ⟨rfl, rfl⟩⟩, g6, g7, g3, g10⟩
theorem o_F_Y {σ : c_S} {κ : Nat → Std.Format} {nc kk h n : Nat} {Γ : List Std.Format} {τ : Std.Format} (hh : h ≤ 38) (hF : o_F σ κ nc kk h Γ n τ) : o_Y σ κ nc 1 0 Γ n τ := ⟨⟨by have := (o_F_0 hF).1; omega, Or.inl (o_F_0 hF).1⟩, Or.inl ⟨kk, h, hh, hF⟩⟩
theorem e_P.pre {C L B W t q y C1 L1 B1 W1 t1 y1 : Nat} {G G' : Nat → Nat → Nat → Nat → Prop} {s s1 σ : c_S} {r : Int32} (g : e_P C1 L1 B1 W1 t1 q y1 G s1 σ r) (ex : v_ex C L B W s s1) (h1 : C ≤ C1) (h2 : L ≤ L1) (h3 : B ≤ B1) (h4 : W ≤ W1) (h5 : t ≤ t1) (hC : C1 + 4 * t + y1 ≤ C + 4 * t1 + y) (hB : B1 + 19 * t ≤ B + 19 * t1) (hL : L1 + 3 * t + y1 ≤ L + 3 * t1 + y) (hW : W1 + t ≤ W + t1) (hG : ∀ C' L' B' t', G C' L' B' t' → G' C' L' B' t') : e_P C L B W t q y G' s σ r := by
  obtain ⟨g1, C', L', B', W', t', S', g2, ⟨k1, k2, k3, k4, k5, k6, k7, k8, k9, k10⟩, g4⟩ := g
  refine ⟨ex.tr g1 h1 h2 h3 h4, C', L', B', W', t', S', g2, ⟨by omega, by omega, by omega, by omega, by omega, k6, by omega, by omega, by omega, by omega⟩, ?_⟩
  rcases g4 with ⟨e, g⟩ | g
  · exact Or.inl ⟨e, hG _ _ _ _ g⟩
  · exact Or.inr g
set_option maxHeartbeats 1000000 in
/-- rows of objects, one by one -/
theorem e_rows (κ : Nat → Std.Format) (nc d q : Nat) (hd : 4 ≤ d) (hO : e_O κ nc d q) (β : Std.Format) (hβ : f_at β) (hq0 : q ≤ 100) : ∀ (τs : List Std.Format) (C L B W t S y ky k n : Nat) (Γ : List Std.Format) (l a b : Int32) (s : c_S), v_S C L B W t S q s → w_K s κ nc → f_ok (f_l τs β) → o_Y s κ nc ky y Γ n (f_l τs β) → w_W s κ nc C L W k (.inr l) Γ → w_B s κ nc C L W B a τs → w_B s κ nc C L W B b τs → y ≤ 16000 → e_rm C L B W t q y → k_ok (b_Rm_sameBehind_13 (c_M d) (nI n) l a b s) (e_P C L B W t q y (fun C' L' B' t' => C' + 2 * τs.length + 4 * t ≤ C + 4 * t' + y ∧ L' + 3 * t ≤ L + 3 * t' + y ∧ B' + 19 * τs.length + 19 * t ≤ B + 19 * t') s)
  | [], C, L, B, W, t, S, y, ky, k, n, Γ, l, a, b, s, hv, hK, hok, hY, hW, ha, hb, hy, hr => by
    have ha : a = -1 := ha
    subst ha
    rw [e_Rm_sameBehind_13, if_pos (by decide)]
    have ht := hv.1.2.2.2.1.2
    exact k_some ⟨v_ex.rf, C, L, B, W, t, S, hv, ⟨Nat.le_refl _, Nat.le_refl _, Nat.le_refl _, Nat.le_refl _, Nat.le_refl _, ht, by omega, by omega, by omega, Nat.le_refl _⟩, Or.inl ⟨rfl, by simp, by omega, by simp⟩⟩
  | τ0 :: τs, C, L, B, W, t, S, y, ky, k, n, Γ, l, a, b, s, hv, hK, hok, hY, hW, ha, hb, hy, hr => by
    obtain ⟨r1, r2, r3, r4⟩ := id hr
    obtain ⟨⟨u1, u2, u3, u4, u5⟩, v1, v2, v3⟩ := id hv
    obtain ⟨ia, ha', rfl, a1, a2, ⟨ka, a3⟩, a4⟩ := ha
    rw [e_Rm_sameBehind_13, if_neg (nI_pos (by omega))]
    refine k_bd (w_shows d (by omega) ky y k n C L Γ _ l s hK u1 u2 (by omega) (by omega) hy hY hW) (fun s_1 x_1 g_1 => ?_)
    obtain ⟨C1, L1, hv1, ex1, c1, c2, -, hs⟩ := hv.sh g_1
    rcases hs with ⟨-, s', ρ, fa, fb, la, lb, Γ1, k1, k2, k3, y', yC, yL, eτ, p43, p44, p45, p46, pl, pF, pY, pW⟩ | ⟨-, -, -, hat, -⟩
    · obtain ⟨e0, e1⟩ := f_a_inj (show f_a τ0 (f_l τs β) = f_a s' ρ from eτ)
      subst e0 e1
      subst pl
      obtain ⟨hτ0, hok0, hok1⟩ := id (show (f_n τ0 ≤ 37 ∧ f_fin τ0) ∧ f_ok τ0 ∧ f_ok (f_l τs β) from hok)
      have hb1 := ex1.B hb c1 c2 (Nat.le_refl _) (Nat.le_refl _)
      obtain ⟨ib, hb', rfl, b1, b2, ⟨kb, b3⟩, b4⟩ := hb1
      rw [c_rg_nI (by omega) (by decide), nI_clamp (show ia < 2 ^ 31 by omega), p45, p46, (ex1.2.2 ia a1).1, a2, e_Rm_sameBehind_49, c_rg_nI (by omega) (by decide), nI_clamp (show ib < 2 ^ 31 by omega), b2, p43, p44]
      refine k_bd (hO C1 L1 B W t S 0 1 k3 fa ha' hb' ka kb Γ1 [] τ0 la (-1) (-1) s_1 hv1 (ex1.K hK) hok0 hτ0.2 (o_F_Y (by omega) pF) pW rfl rfl (ex1.W a3 (Nat.le_refl _) c1 c2 (Nat.le_refl _)) b3 (by simpa using (by omega : f_n τ0 ≤ 76)) (by omega) ⟨by omega, by omega, by omega, by omega⟩) (fun s_2 x_2 g_2 => ?_)
      obtain ⟨ex2, C2, L2, B2, W2, t2, S2, hv2, ⟨k1', k2', k3', k4', k5', k6', k7', k8', k9', k10'⟩, ans⟩ := g_2
      have ex12 : v_ex C L B W s s_2 := ex1.tr ex2 c1 c2 (Nat.le_refl _) (Nat.le_refl _)
      refine k_if (fun h1 => ?_) (fun h1 => ?_)
      · rcases ans with ⟨-, gC, gL, gB⟩ | ⟨h1', -⟩
        · have gB := gB (by simpa using hτ0.1)
          simp only [List.length_nil, Nat.zero_add, Nat.zero_mul, Nat.mul_zero, Nat.add_zero] at gC gL gB
          obtain ⟨⟨w1, w2, w3, w4, w5⟩, w6, w7, w8⟩ := id hv2
          obtain ⟨σ3, es3, f3, l1, l2, l3, l4⟩ := w_list d (by omega) (nI ha') la s_2 L2 (by omega) w2
          rw [es3, c_bd_some, e_Rm_sameBehind_97, c_rg_nI (by omega) (by decide), c_rg_nI (by omega) (by decide), nI_clamp (show ia < 2 ^ 31 by omega), nI_clamp (show ib < 2 ^ 31 by omega)]
          have ex3 : v_ex C2 L2 B2 W2 s_2 σ3 := ⟨z_F.mono f3 rfl, ⟨o_ag.of f3 rfl, fun h _ => by rw [f3.1 53 rfl (by decide), f3.1 54 rfl (by decide)]; exact ⟨rfl, rfl⟩, l4, fun h _ => by rw [f3.1 59 rfl (by decide), f3.1 60 rfl (by decide)]; exact ⟨rfl, rfl⟩⟩, fun i _ => by rw [f3.1 57 rfl (by decide), f3.1 58 rfl (by decide)]; exact ⟨rfl, rfl⟩⟩
          have ex13 : v_ex C1 L1 B W s_1 σ3 := ex2.tr ex3 k1' k2' k3' k4'
          have ex03 : v_ex C L B W s σ3 := ex1.tr ex13 c1 c2 (Nat.le_refl _) (Nat.le_refl _)
          rw [(ex03.2.2 ia a1).2, (ex13.2.2 ib b1).2]
          have hv3 : v_S C2 (L2 + 1) B2 W2 t2 S2 q σ3 := ⟨⟨by rw [f3.2.1 30 rfl]; exact w1, l1, by rw [f3.2.1 36 rfl]; exact w3, ⟨by rw [f3.2.1 42 rfl]; exact w4.1, w4.2⟩, ⟨by rw [f3.2.1 41 rfl]; exact w5.1, w5.2⟩⟩, by rw [f3.2.1 40 rfl]; exact w6, by rw [f3.2.1 53 rfl]; exact w7, w8⟩
          have hl3 : w_W σ3 κ nc C2 (L2 + 1) W2 (max ka k3 + 1) (.inr (nI L2)) (τ0 :: Γ1) := ⟨L2, ha', rfl, by omega, l2, ⟨hτ0, hok0⟩, ex03.W a3 (by omega) (by omega) (by omega) (by omega), by rw [l3]; exact ex13.W pW (by omega) k1' (by omega) k4'⟩
          refine k_mono (e_rows κ nc d q hd hO β hβ hq0 τs C2 (L2 + 1) B2 W2 t2 S2 y' k2 _ fb (τ0 :: Γ1) (nI L2) _ _ σ3 hv3 (ex03.K hK) hok1 (ex13.Y pY) hl3 (ex03.B a4 (by omega) (by omega) (by omega) (by omega)) (ex13.B b4 k1' (by omega) k3' k4') (by omega) ⟨by omega, by omega, by omega, by omega⟩) (fun σ r g => g.pre ex03 (by omega) (by omega) (by omega) (by omega) (by omega) (by omega) (by omega) (by omega) (by omega) (fun C' L' B' t' h => ?_))
          rw [List.length_cons]
          omega
        · exact absurd h1 h1'
      · rcases ans with ⟨h1', -⟩ | h2
        · exact absurd h1' h1
        · exact k_some ⟨ex12, C2, L2, B2, W2, t2, S2, hv2, ⟨by omega, by omega, by omega, by omega, by omega, k6', by omega, by omega, by omega, by omega⟩, Or.inr h2⟩
    · exact absurd rfl (hat _ _)
