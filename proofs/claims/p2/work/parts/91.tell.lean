/-! telling in the reference: as EQUAL, one object alone -/
def n_ex (C L B W : Nat) (s σ : c_S) : Prop := z_F [53, 54, 55, 56, 57, 58, 59, 60, 61, 62, 63, 67] [30, 33, 36, 40, 41, 42, 43, 44, 45, 46, 47, 48, 51, 52, 53, 64, 66] [] s σ ∧ w_ag C L W s σ ∧ (∀ i, i < B → σ.1 57 i = s.1 57 i ∧ σ.1 58 i = s.1 58 i)
theorem n_ex.rf {C L B W : Nat} {s : c_S} : n_ex C L B W s s := ⟨z_F.rf, w_ag.rf, fun _ _ => ⟨rfl, rfl⟩⟩
theorem n_ex.tr {C L B W C' L' B' W' : Nat} {s t u : c_S} (h : n_ex C L B W s t) (k : n_ex C' L' B' W' t u) (h1 : C ≤ C') (h2 : L ≤ L') (h3 : B ≤ B') (h4 : W ≤ W') : n_ex C L B W s u :=
  ⟨z_F.tr h.1 k.1, h.2.1.tr (k.2.1.le h1 h2 h4), fun i hi => ⟨(k.2.2 i (by omega)).1.trans (h.2.2 i hi).1, (k.2.2 i (by omega)).2.trans (h.2.2 i hi).2⟩⟩
theorem v_ex.n {C L B W : Nat} {s σ : c_S} (h : v_ex C L B W s σ) : n_ex C L B W s σ := ⟨z_F.mono h.1 rfl, h.2.1, h.2.2⟩
theorem n_ex.say {C L B W : Nat} {s σ : c_S} (f : z_F [67] [64, 66] [] s σ) : n_ex C L B W s σ :=
  ⟨z_F.mono f rfl, ⟨o_ag.of f rfl, fun h _ => by rw [f.1 53 rfl (by decide), f.1 54 rfl (by decide)]; exact ⟨rfl, rfl⟩, fun h _ => by rw [f.1 55 rfl (by decide), f.1 56 rfl (by decide)]; exact ⟨rfl, rfl⟩, fun h _ => by rw [f.1 59 rfl (by decide), f.1 60 rfl (by decide)]; exact ⟨rfl, rfl⟩⟩, fun i _ => by rw [f.1 57 rfl (by decide), f.1 58 rfl (by decide)]; exact ⟨rfl, rfl⟩⟩
theorem n_ex.B {C L B W C' L' B' W' : Nat} {s σ : c_S} (h : n_ex C L B W s σ) {κ : Nat → Std.Format} {nc : Nat} {b : Int32} {τs : List Std.Format} (hb : w_B s κ nc C L W B b τs) (h1 : C ≤ C') (h2 : L ≤ L') (h3 : B ≤ B') (h4 : W ≤ W') : w_B σ κ nc C' L' W' B' b τs := w_B_ag h.2.1 h.2.2 h1 h2 h4 h3 τs b hb
theorem n_ex.W {C L B W C' L' W' : Nat} {s σ : c_S} (h : n_ex C L B W s σ) {κ : Nat → Std.Format} {nc k k' : Nat} {x : Nat ⊕ Int32} {Γ : List Std.Format} (hb : w_W s κ nc C L W k x Γ) (hk : k ≤ k') (h1 : C ≤ C') (h2 : L ≤ L') (h4 : W ≤ W') : w_W σ κ nc C' L' W' k' x Γ := w_W_up h1 h2 h4 k k' x Γ hk (w_W_ag h.2.1 k x Γ hb)
theorem n_ex.K {C L B W : Nat} {s σ : c_S} (h : n_ex C L B W s σ) {κ : Nat → Std.Format} {nc : Nat} (hK : w_K s κ nc) : w_K σ κ nc := w_K_ag hK h.2.1.1 (h.1.1 50 rfl (by decide)) (h.1.1 51 rfl (by decide))
theorem n_ex.Y {C L B W : Nat} {s σ : c_S} (h : n_ex C L B W s σ) {κ : Nat → Std.Format} {nc k y n : Nat} {Γ : List Std.Format} {τ : Std.Format} (hY : o_Y s κ nc k y Γ n τ) : o_Y σ κ nc k y Γ n τ := o_Y_eq (z_n h.1 rfl) k y Γ n τ hY
theorem n_ex.F {C L B W : Nat} {s σ : c_S} (h : n_ex C L B W s σ) {κ : Nat → Std.Format} {nc k y n : Nat} {Γ : List Std.Format} {τ : Std.Format} (hY : o_F s κ nc k y Γ n τ) : o_F σ κ nc k y Γ n τ := o_F_ag h.2.1.1 k y Γ n τ hY
def n_S (nc C L B W t S q : Nat) (s : c_S) : Prop := v_S C L B W t S q s ∧ n_D s ∧ n_N s nc
theorem n_S.v {nc C L B W t S q C0 L0 B0 W0 t0 S0 q0 : Nat} {s σ : c_S} (h : n_S nc C0 L0 B0 W0 t0 S0 q0 s) (x : v_ex C0 L0 B0 W0 s σ) (hv : v_S C L B W t S q σ) : n_S nc C L B W t S q σ := by
  refine ⟨hv, ?_, fun c hc => ?_⟩
  · obtain ⟨D, h1, h2⟩ := h.2.1
    exact ⟨D, h1, by rw [x.1.2.1 64 rfl]; exact h2⟩
  · rw [x.1.2.2 47 rfl, x.1.2.2 48 rfl]; exact h.2.2 c hc
theorem n_S.say {nc C L B W t S q : Nat} {s σ : c_S} (h : n_S nc C L B W t S q s) (f : z_F [67] [64, 66] [] s σ) (hD : n_D σ) : n_S nc C L B W t S q σ := by
  obtain ⟨⟨⟨u1, u2, u3, u4, u5⟩, v1, v2, v3⟩, -, hN⟩ := h
  exact ⟨⟨⟨by rw [f.2.1 30 rfl]; exact u1, by rw [f.2.1 33 rfl]; exact u2, by rw [f.2.1 36 rfl]; exact u3, ⟨by rw [f.2.1 42 rfl]; exact u4.1, u4.2⟩, ⟨by rw [f.2.1 41 rfl]; exact u5.1, u5.2⟩⟩, by rw [f.2.1 40 rfl]; exact v1, by rw [f.2.1 53 rfl]; exact v2, v3⟩, hD, fun c hc => by rw [f.2.2 47 rfl, f.2.2 48 rfl]; exact hN c hc⟩
def n_rm (C L B W t q y : Nat) : Prop := C + 4 * (20000 - t) + y + 154 * (101 - q) ≤ 400000 ∧ B + 19 * (20000 - t) + 154 * (101 - q) ≤ 400000 ∧ L + 3 * (20000 - t) + y + 154 * (101 - q) + 1 ≤ 400000 ∧ W + (20000 - t) ≤ 24000
def n_cr (C L B W t q y z C' L' B' W' t' : Nat) : Prop := C ≤ C' ∧ L ≤ L' ∧ B ≤ B' ∧ W ≤ W' ∧ t ≤ t' ∧ t' ≤ 20000 ∧ C' + 4 * t ≤ C + 4 * t' + y + 154 * (101 - q) ∧ B' + 19 * t ≤ B + 19 * t' + 154 * (101 - q) ∧ L' + 3 * t ≤ L + 3 * t' + y + 154 * (101 - q) + z ∧ W' + t ≤ W + t'
/-- what telling leaves, u questions open -/
def n_P (nc C L B W t q u y z : Nat) (G : Nat → Nat → Nat → Nat → Prop) (s σ : c_S) (r : Int32) : Prop := n_ex C L B W s σ ∧ ∃ C' L' B' W' t' S', n_S nc C' L' B' W' t' S' u σ ∧ n_cr C L B W t q y z C' L' B' W' t' ∧ (r = 1 → G C' L' B' t')
theorem n_P.dn {nc C L B W t q y z : Nat} {G : Nat → Nat → Nat → Nat → Prop} {s σ : c_S} {r : Int32} (hq : q ≤ 100) (g : n_P nc C L B W t q (q + 1) y z G s σ r) : n_P nc C L B W t q q y z G s (c_put σ 34 53 (σ.1 34 53 - 1)) r := by
  obtain ⟨g1, C', L', B', W', t', S', ⟨⟨⟨u1, u2, u3, u4, u5⟩, v1, v2, v3⟩, hD, hN⟩, g3, g4⟩ := g
  have f : z_F [] [53] [] σ (c_put σ 34 53 (σ.1 34 53 - 1)) := z_F.puf z_F.rf rfl
  refine ⟨g1.tr ((v_fld (z_F.mono f rfl) : v_ex C L B W σ _).n) (Nat.le_refl _) (Nat.le_refl _) (Nat.le_refl _) (Nat.le_refl _), C', L', B', W', t', S', ⟨⟨⟨by rw [f.2.1 30 rfl]; exact u1, by rw [f.2.1 33 rfl]; exact u2, by rw [f.2.1 36 rfl]; exact u3, ⟨by rw [f.2.1 42 rfl]; exact u4.1, u4.2⟩, ⟨by rw [f.2.1 41 rfl]; exact u5.1, u5.2⟩⟩, by rw [f.2.1 40 rfl]; exact v1, by rw [c_put_same, v2]; exact nI_pred q, hq⟩, ?_, hN⟩, g3, g4⟩
  obtain ⟨D, h1, h2⟩ := hD
  exact ⟨D, h1, by rw [f.2.1 64 rfl]; exact h2⟩
/-- something more is said -/
theorem n_P.say {nc C L B W t q u y z : Nat} {G : Nat → Nat → Nat → Nat → Prop} {s σ σ' : c_S} {r r' : Int32} (g : n_P nc C L B W t q u y z G s σ r) (f : z_F [67] [64, 66] [] σ σ') (hD : n_D σ') (hr : r' = 1 → r = 1) : n_P nc C L B W t q u y z G s σ' r' := by
  obtain ⟨g1, C', L', B', W', t', S', g2, g3, g4⟩ := g
  exact ⟨g1.tr (n_ex.say f) (Nat.le_refl _) (Nat.le_refl _) (Nat.le_refl _) (Nat.le_refl _), C', L', B', W', t', S', g2.say f hD, g3, fun h => g4 (hr h)⟩
def n_FG (C L B t y : Nat) : Nat → Nat → Nat → Nat → Prop := fun C' L' B' t' => C' + 2 + 4 * t ≤ C + 4 * t' + y ∧ L' + 1 + 3 * t ≤ L + 3 * t' + y ∧ B' + 19 + 19 * t ≤ B + 19 * t'
def n_RG (C L B t y m : Nat) : Nat → Nat → Nat → Nat → Prop := fun C' L' B' t' => C' + 2 * m + 4 * t ≤ C + 4 * t' + y ∧ L' + 3 * t ≤ L + 3 * t' + y ∧ B' + 19 * m + 19 * t ≤ B + 19 * t'
def n_F (κ : Nat → Std.Format) (nc d q : Nat) : Prop := ∀ (C L B W t S y ky k n : Nat) (Γ : List Std.Format) (τ : Std.Format) (l dp : Int32) (s : c_S), n_S nc C L B W t S q s → w_K s κ nc → f_ok τ → f_fin τ → o_Y s κ nc ky y Γ n τ → w_W s κ nc C L W k (.inr l) Γ → y ≤ 16000 → n_rm C L B W t q y → k_ok (c_M d 86 [v_r 34, v_i (nI n), v_i l, v_i dp] s) (n_P nc C L B W t q q y 0 (n_FG C L B t y) s)
def n_O (κ : Nat → Std.Format) (nc d q : Nat) : Prop := ∀ (C L B W t S y ky k n c kc : Nat) (Γ ρs : List Std.Format) (τ : Std.Format) (l a dp ib : Int32) (s : c_S), n_S nc C L B W t S q s → w_K s κ nc → f_ok τ → f_fin τ → o_Y s κ nc ky y Γ n τ → w_W s κ nc C L W k (.inr l) Γ → w_B s κ nc C L W B a ρs → w_W s κ nc C L W kc (.inl c) [f_l ρs τ] → ρs.length + f_n τ ≤ 76 → y ≤ 16000 → n_rm C L B W t q y → k_ok (c_M d 88 [v_r 34, v_i (nI c), v_i a, v_i (nI n), v_i l, v_i dp, v_i ib] s) (n_P nc C L B W t q q y 0 (e_G C L B t y ρs.length (f_n τ)) s)
theorem n_P.pre {nc C L B W t q u y z C1 L1 B1 W1 t1 y1 : Nat} {G G' : Nat → Nat → Nat → Nat → Prop} {s s1 σ : c_S} {r : Int32} (g : n_P nc C1 L1 B1 W1 t1 q u y1 z G s1 σ r) (ex : n_ex C L B W s s1) (h1 : C ≤ C1) (h2 : L ≤ L1) (h3 : B ≤ B1) (h4 : W ≤ W1) (h5 : t ≤ t1) (hC : C1 + 4 * t + y1 ≤ C + 4 * t1 + y) (hB : B1 + 19 * t ≤ B + 19 * t1) (hL : L1 + 3 * t + y1 ≤ L + 3 * t1 + y) (hW : W1 + t ≤ W + t1) (hG : ∀ C' L' B' t', G C' L' B' t' → G' C' L' B' t') : n_P nc C L B W t q u y z G' s σ r := by
  obtain ⟨g1, C', L', B', W', t', S', g2, ⟨k1, k2, k3, k4, k5, k6, k7, k8, k9, k10⟩, g4⟩ := g
  exact ⟨ex.tr g1 h1 h2 h3 h4, C', L', B', W', t', S', g2, ⟨by omega, by omega, by omega, by omega, by omega, k6, by omega, by omega, by omega, by omega⟩, fun h => hG _ _ _ _ (g4 h)⟩
set_option maxHeartbeats 1000000 in
/-- rows of objects, told one by one -/
theorem n_rows (κ : Nat → Std.Format) (nc d q : Nat) (hd : 4 ≤ d) (hO : n_O κ nc d q) (β : Std.Format) (hβ : f_at β) (hq0 : q ≤ 100) (dp : Int32) : ∀ (τs : List Std.Format) (C L B W t S y ky k n : Nat) (Γ : List Std.Format) (l a : Int32) (s : c_S), n_S nc C L B W t S q s → w_K s κ nc → f_ok (f_l τs β) → o_Y s κ nc ky y Γ n (f_l τs β) → w_W s κ nc C L W k (.inr l) Γ → w_B s κ nc C L W B a τs → y ≤ 16000 → n_rm C L B W t q y → k_ok (b_Rm_tellBehind_12 (c_M d) dp (nI n) l 1 a s) (n_P nc C L B W t q q y 1 (n_RG C L B t y τs.length) s)
  | [], C, L, B, W, t, S, y, ky, k, n, Γ, l, a, s, hv, hK, hok, hY, hW, ha, hy, hr => by
    have ha : a = -1 := ha
    subst ha
    rw [e_Rm_tellBehind_12, if_pos (by decide)]
    have ht := hv.1.1.2.2.2.1.2
    exact k_some ⟨n_ex.rf, C, L, B, W, t, S, hv, ⟨Nat.le_refl _, Nat.le_refl _, Nat.le_refl _, Nat.le_refl _, Nat.le_refl _, ht, by omega, by omega, by omega, Nat.le_refl _⟩, fun _ => ⟨by simp, by omega, by simp⟩⟩
  | τ0 :: τs, C, L, B, W, t, S, y, ky, k, n, Γ, l, a, s, hv, hK, hok, hY, hW, ha, hy, hr => by
    obtain ⟨r1, r2, r3, r4⟩ := id hr
    obtain ⟨⟨u1, u2, u3, u4, u5⟩, v1, v2, v3⟩ := id hv.1
    obtain ⟨ia, ha', rfl, a1, a2, ⟨ka, a3⟩, a4⟩ := ha
    rw [e_Rm_tellBehind_12, if_neg (nI_pos (by omega)), if_pos rfl]
    refine k_bd (w_shows d (by omega) ky y k n C L Γ _ l s hK u1 u2 (by omega) (by omega) hy hY hW) (fun s_1 x_1 g_1 => ?_)
    obtain ⟨C1, L1, hv1, ex1, c1, c2, -, hs⟩ := hv.1.sh g_1
    rcases hs with ⟨-, s', ρ, fa, fb, la, lb, Γ1, k1, k2, k3, y', yC, yL, eτ, p43, p44, p45, p46, pl, pF, pY, pW⟩ | ⟨-, -, -, hat, -⟩
    · obtain ⟨e0, e1⟩ := f_a_inj (show f_a τ0 (f_l τs β) = f_a s' ρ from eτ)
      subst e0 e1
      subst pl
      obtain ⟨hτ0, hok0, hok1⟩ := id (show (f_n τ0 ≤ 37 ∧ f_fin τ0) ∧ f_ok τ0 ∧ f_ok (f_l τs β) from hok)
      have nv1 := hv.v ex1 hv1
      rw [e_Rm_tellBehind_45, c_rg_nI (by omega) (by decide), nI_clamp (show ia < 2 ^ 31 by omega), p45, p46, (ex1.2.2 ia a1).1, a2]
      refine k_bd (n_say d (by omega) _ s_1 nv1.2.1) (fun s_2 x_2 g_2 => ?_)
      obtain ⟨f2, D2⟩ := g_2
      have nv2 := nv1.say f2 D2
      have ex2 : n_ex C L B W s s_2 := ex1.n.tr (n_ex.say f2) c1 c2 (Nat.le_refl _) (Nat.le_refl _)
      have ex12 : n_ex C1 L1 B W s_1 s_2 := n_ex.say f2
      obtain ⟨x3, es3, hx3⟩ := n_ended d (by omega) 1 s_2
      rw [es3, c_bd_some]
      -- the list, and on
      have go : ∀ (σ : c_S) (r : Int32), n_P nc C1 L1 B W t q q 0 0 (e_G C1 L1 B t 0 0 (f_n τ0)) s_2 σ r → k_ok (b_Rm_tellBehind_96 (c_M d) dp (nI ia) (nI fb) la (nI ha') r σ) (n_P nc C L B W t q q y 1 (n_RG C L B t y (τs.length + 1)) s) := by
        intro σ r g
        obtain ⟨ex3, C2, L2, B2, W2, t2, S2, nv3, ⟨k1', k2', k3', k4', k5', k6', k7', k8', k9', k10'⟩, gG⟩ := g
        obtain ⟨⟨w1, w2, w3, w4, w5⟩, w6, w7, w8⟩ := id nv3.1
        obtain ⟨σ4, es4, f4, l1, l2, l3, l4⟩ := w_list d (by omega) (nI ha') la σ L2 (by omega) w2
        rw [e_Rm_tellBehind_96, es4, c_bd_some, c_rg_nI (by omega) (by decide), nI_clamp (show ia < 2 ^ 31 by omega)]
        have ex4 : v_ex C2 L2 B2 W2 σ σ4 := ⟨z_F.mono f4 rfl, ⟨o_ag.of f4 rfl, fun h _ => by rw [f4.1 53 rfl (by decide), f4.1 54 rfl (by decide)]; exact ⟨rfl, rfl⟩, l4, fun h _ => by rw [f4.1 59 rfl (by decide), f4.1 60 rfl (by decide)]; exact ⟨rfl, rfl⟩⟩, fun i _ => by rw [f4.1 57 rfl (by decide), f4.1 58 rfl (by decide)]; exact ⟨rfl, rfl⟩⟩
        have hv4 : v_S C2 (L2 + 1) B2 W2 t2 S2 q σ4 := ⟨⟨by rw [f4.2.1 30 rfl]; exact w1, l1, by rw [f4.2.1 36 rfl]; exact w3, ⟨by rw [f4.2.1 42 rfl]; exact w4.1, w4.2⟩, ⟨by rw [f4.2.1 41 rfl]; exact w5.1, w5.2⟩⟩, by rw [f4.2.1 40 rfl]; exact w6, by rw [f4.2.1 53 rfl]; exact w7, w8⟩
        have nv4 := nv3.v ex4 hv4
        have ex13 : n_ex C1 L1 B W s_1 σ4 := (ex12.tr ex3 (Nat.le_refl _) (Nat.le_refl _) (Nat.le_refl _) (Nat.le_refl _)).tr ex4.n k1' k2' k3' k4'
        have ex03 : n_ex C L B W s σ4 := ex1.n.tr ex13 c1 c2 (Nat.le_refl _) (Nat.le_refl _)
        by_cases hr1 : r = 1
        · obtain ⟨gC, gL, gB⟩ := gG hr1
          subst hr1
          have gB := gB (by omega)
          simp only [Nat.zero_add, Nat.zero_mul, Nat.mul_zero, Nat.add_zero] at gC gL gB
          rw [(ex03.2.2 ia a1).2]
          have hl3 : w_W σ4 κ nc C2 (L2 + 1) W2 (max ka k3 + 1) (.inr (nI L2)) (τ0 :: Γ1) := ⟨L2, ha', rfl, by omega, l2, ⟨hτ0, hok0⟩, ex03.W a3 (by omega) (by omega) (by omega) (by omega), by rw [l3]; exact ex13.W pW (by omega) k1' (by omega) k4'⟩
          refine k_mono (n_rows κ nc d q hd hO β hβ hq0 dp τs C2 (L2 + 1) B2 W2 t2 S2 y' k2 _ fb (τ0 :: Γ1) (nI L2) _ σ4 nv4 (ex03.K hK) hok1 (ex13.Y pY) hl3 (ex03.B a4 (by omega) (by omega) (by omega) (by omega)) (by omega) ⟨by omega, by omega, by omega, by omega⟩) (fun σ r g => g.pre ex03 (by omega) (by omega) (by omega) (by omega) (by omega) (by omega) (by omega) (by omega) (by omega) (fun C' L' B' t' h => ?_))
          obtain ⟨z1, z2, z3⟩ := h
          exact ⟨by omega, by omega, by omega⟩
        · rw [e_Rm_tellBehind_12, if_neg hr1]
          have fin : k_ok (some (σ4, r)) (n_P nc C L B W t q q y 1 (n_RG C L B t y (τs.length + 1)) s) := k_some ⟨ex03, C2, L2 + 1, B2, W2, t2, S2, nv4, ⟨by omega, by omega, by omega, by omega, by omega, k6', by omega, by omega, by omega, by omega⟩, fun h => absurd h hr1⟩
          exact k_if (fun _ => fin) (fun _ => fin)
      have el : (τ0 :: τs).length = τs.length + 1 := rfl
      rw [el]
      refine k_if (fun _ => ?_) (fun hne => ?_)
      · rw [f2.2.1 43 rfl, f2.2.1 44 rfl, p43, p44]
        refine k_bd (hO C1 L1 B W t S 0 1 k3 fa ha' ka Γ1 [] τ0 la (-1) dp 1 s_2 nv2 (ex2.K hK) hok0 hτ0.2 (o_F_Y (by omega) (ex12.F pF)) (ex12.W pW (Nat.le_refl _) (Nat.le_refl _) (Nat.le_refl _) (Nat.le_refl _)) rfl (ex2.W a3 (Nat.le_refl _) c1 c2 (Nat.le_refl _)) (by simpa using (by omega : f_n τ0 ≤ 76)) (by omega) ⟨by omega, by omega, by omega, by omega⟩) (fun s_3 x_3 g_3 => go s_3 x_3 g_3)
      · exact go s_2 x3 ⟨n_ex.rf, C1, L1, B, W, t, S, nv2, ⟨Nat.le_refl _, Nat.le_refl _, Nat.le_refl _, Nat.le_refl _, Nat.le_refl _, u4.2, by omega, by omega, by omega, Nat.le_refl _⟩, fun h => absurd h hne⟩
    · exact absurd rfl (hat _ _)
