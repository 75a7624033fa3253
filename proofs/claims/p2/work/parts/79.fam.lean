/-! EQUAL of two families in the reference -/
theorem o_F_spine {σ : c_S} {κ : Nat → Std.Format} {nc k h n : Nat} {Γ : List Std.Format} {τ : Std.Format} (hx : o_F σ κ nc k h Γ n τ) (hat : f_at τ) (hfin : f_fin τ) : ∃ c kk hh, hh ≤ 38 ∧ c < nc ∧ τ = f_b c ∧ o_T σ κ nc kk hh Γ n f_t ∧ o_h σ kk n c := by
  cases k with
  | zero => exact hx.elim
  | succ k =>
    obtain ⟨-, hx⟩ := hx
    rcases hx with ⟨-, a, b, h', s, r, -, -, -, -, -, ⟨e, -⟩, -⟩ | ⟨-, c, kk, hh, q1, q2, q3, q4, q5⟩ | ⟨-, e⟩
    · exact absurd e (hat _ _)
    · exact ⟨c, kk, hh, q1, q2, q3, q4, q5⟩
    · rw [e] at hfin; exact hfin.elim
/-- the yes of two families: what it leaves over -/
def e_FG (τ1 τ2 : Std.Format) (C L B t y : Nat) : Nat → Nat → Nat → Nat → Prop := fun C' L' B' t' => τ1 = τ2 ∧ C' + 2 + 4 * t ≤ C + 4 * t' + y ∧ L' + 1 + 3 * t ≤ L + 3 * t' + y ∧ B' + 19 + 19 * t ≤ B + 19 * t'
set_option maxHeartbeats 1000000 in
theorem e_spine (κ : Nat → Std.Format) (nc d q : Nat) (hd : 4 ≤ d) (hO : e_O κ nc d (q + 1)) (C L B W t y C2 L2 S1 n1 n2 k1 k2 h1 h2 kk1 kk2 : Nat) (Γ1 Γ2 : List Std.Format) (τ1 τ2 : Std.Format) (l1 l2 : Int32) (s s2 : c_S) (hq : q < 100) (ht : t < 20000) (hv2 : v_S C2 L2 B W (t + 1) S1 (q + 1) s2) (hK : w_K s2 κ nc) (ex : v_ex C L B W s s2) (c1 : C ≤ C2) (c2 : L ≤ L2) (yC : C2 ≤ C + y) (yL : L2 ≤ L + y) (a1 : f_at τ1) (a2 : f_at τ2) (f1 : f_fin τ1) (f2 : f_fin τ2) (hF1 : o_F s2 κ nc kk1 h1 Γ1 n1 τ1) (hF2 : o_F s2 κ nc kk2 h2 Γ2 n2 τ2) (hW1 : w_W s2 κ nc C2 L2 W k1 (.inr l1) Γ1) (hW2 : w_W s2 κ nc C2 L2 W k2 (.inr l2) Γ2) (hr : e_rm C L B W t q y) :
    k_ok (c_M (d + 2) 57 [v_r 34, v_i (nI n1), v_i l1, v_i (nI n2), v_i l2] s2) (e_A C L B W t q y (e_FG τ1 τ2 C L B t y) s) := by
  obtain ⟨r1, r2, r3, r4⟩ := id hr
  obtain ⟨cc1, u1, v1, p1, p2, p3, p4, p5⟩ := o_F_spine hF1 a1 f1
  obtain ⟨cc2, u2, v2, q1, q2, q3, q4, q5⟩ := o_F_spine hF2 a2 f2
  have hnc := hK.1
  rw [m_Rm_sameSpines, e_Rm_sameSpines_0]
  obtain ⟨s3, b3, C3, B3, τs1, es3, hv3, ex3, eC3, eB3, hB3, h51, hκ1⟩ := v_behindOf (d + 1) (by omega) u1 v1 u1 n1 cc1 k1 Γ1 l1 s2 p2 p1 hv2 hK p4 p5 hW1 (by omega) (by omega)
  have len1 : τs1.length ≤ 38 := by
    have := (hK.2 cc1 p2).1.1
    rw [hκ1, f_l_n f_t_at] at this; exact this
  rw [es3, c_bd_some]
  obtain ⟨s4, b4, C4, B4, τs2, es4, hv4, ex4, eC4, eB4, hB4, h514, hκ2⟩ := v_behindOf (d + 1) (by omega) u2 v2 u2 n2 cc2 k2 Γ2 l2 s3 q2 q1 hv3 (ex3.K hK) (o_T_ag ex3.2.1.1 _ _ _ _ _ q4) (o_h_ag ex3.2.1.1 _ _ _ (o_F_0 hF2).1 q5) (ex3.W hW2 (Nat.le_refl _) (by omega) (Nat.le_refl _) (Nat.le_refl _)) (by omega) (by omega)
  have len2 : τs2.length ≤ 38 := by
    have := (hK.2 cc2 q2).1.1
    rw [hκ2, f_l_n f_t_at] at this; exact this
  rw [es4, c_bd_some, h51, h514]
  have ex04 : v_ex C L B W s s4 := (ex.tr ex3 c1 c2 (Nat.le_refl _) (Nat.le_refl _)).tr ex4 (by omega) (by omega) (by omega) (Nat.le_refl _)
  refine k_if (fun hh => ?_) (fun hh => ?_)
  · have ecc : cc2 = cc1 := (nI_eq (by omega) (by omega)).mp hh
    subst ecc
    have hτ : τs1 = τs2 := (f_l_inj f_t_at f_t_at (hκ1.symm.trans hκ2)).1
    subst hτ
    have hK4 := ex4.K (ex3.K hK)
    obtain ⟨hκ, ⟨t5, k5, y1, y2⟩, -⟩ := hK4.2 cc2 p2
    rw [e_Rm_sameSpines_34, c_rg_nI (by omega) (by decide), nI_clamp (show cc2 < 2 ^ 31 by omega), y1, m_Rm_sameBehind, e_Rm_sameBehind_0]
    rw [hκ1] at hκ y2
    refine k_bd (e_rows κ nc d (q + 1) hd hO f_t f_t_at (by omega) τs1 C4 L2 B4 W (t + 1) S1 0 1 1 t5 [] (-1) b3 b4 s4 hv4 hK4 hκ.2 (o_F_Y (Nat.le_refl _) y2) rfl (ex4.B hB3 (by omega) (Nat.le_refl _) (by omega) (Nat.le_refl _)) hB4 (by omega) ⟨by omega, by omega, by omega, by omega⟩) (fun s5 x5 g5 => k_some ?_)
    obtain ⟨ex5, C', L', B', W', t', S', hv5, ⟨m1, m2, m3, m4, m5, m6, m7, m8, m9, m10⟩, ans⟩ := g5
    refine ⟨ex04.tr ex5 (by omega) (by omega) (by omega) (Nat.le_refl _), C', L', B', W', t', S', hv5, ⟨by omega, by omega, by omega, by omega, by omega, m6, by omega, by omega, by omega, by omega⟩, ?_⟩
    rcases ans with ⟨h1, gC, gL, gB⟩ | h2
    · exact Or.inl ⟨h1, p3.trans q3.symm, by omega, by omega, by omega⟩
    · exact Or.inr h2
  · rw [e_Rm_sameSpines_32]
    exact k_some ⟨ex04, C4, L2, B4, W, t + 1, S1, hv4, ⟨by omega, by omega, by omega, by omega, by omega, by omega, by omega, by omega, by omega, by omega⟩, Or.inr ⟨by decide, Or.inl rfl⟩⟩
/-- two families are asked -/
def e_Fm (κ : Nat → Std.Format) (nc d q : Nat) : Prop := ∀ (C L B W t S y1 y2 ky1 ky2 k1 k2 n m : Nat) (Γ1 Γ2 : List Std.Format) (τ1 τ2 : Std.Format) (l k : Int32) (s : c_S), v_S C L B W t S q s → w_K s κ nc → f_ok τ1 → f_fin τ1 → f_ok τ2 → f_fin τ2 → o_Y s κ nc ky1 y1 Γ1 n τ1 → o_Y s κ nc ky2 y2 Γ2 m τ2 → w_W s κ nc C L W k1 (.inr l) Γ1 → w_W s κ nc C L W k2 (.inr k) Γ2 → y1 ≤ 16000 → y2 ≤ 16000 → e_rm C L B W t q (y1 + y2) → k_ok (c_M d 54 [v_r 34, v_i (nI n), v_i l, v_i (nI m), v_i k] s) (e_P C L B W t q (y1 + y2) (e_FG τ1 τ2 C L B t (y1 + y2)) s)
set_option maxHeartbeats 2000000 in
theorem e_Fstep (κ : Nat → Std.Format) (nc d q : Nat) (hd : 90 ≤ d) (hq : q ≤ 100) (hO : q < 100 → e_O κ nc d (q + 1) ∧ e_Fm κ nc (d + 2) (q + 1)) : e_Fm κ nc (d + 4) q := by
  intro C L B W t S y1 y2 ky1 ky2 k1 k2 n m Γ1 Γ2 τ1 τ2 l k s hv hK hok1 hfin1 hok2 hfin2 hY1 hY2 hW1 hW2 hy1 hy2 hr
  obtain ⟨r1, r2, r3, r4⟩ := id hr
  have ht := hv.1.2.2.2.1.2
  rw [m_Rm_sameFamilies, e_Rm_sameFamilies_0]
  have no : ∀ r : Int32, (¬ r = 1 ∧ (r = 0 ∨ r = 9 ∨ r = 10)) → k_ok (some (s, r)) (e_P C L B W t q (y1 + y2) (e_FG τ1 τ2 C L B t (y1 + y2)) s) := fun r h => k_some ⟨v_ex.rf, C, L, B, W, t, S, hv, ⟨Nat.le_refl _, Nat.le_refl _, Nat.le_refl _, Nat.le_refl _, Nat.le_refl _, ht, by omega, by omega, by omega, Nat.le_refl _⟩, Or.inr h⟩
  rcases v_asks (d + 3) (by omega) s hv with h | h | ⟨s1, h, t1, q1, hv1, ex1⟩
  · rw [h, c_bd_some, if_neg (by decide)]
    exact no 10 (by decide)
  · rw [h, c_bd_some, if_neg (by decide)]
    exact no 9 (by decide)
  · obtain ⟨hO1, hFm⟩ := hO q1
    rw [h, c_bd_some, if_pos rfl, m_Rm_sameAsked, e_Rm_sameAsked_0]
    refine k_bd (Q := e_A C L B W t q (y1 + y2) (e_FG τ1 τ2 C L B t (y1 + y2)) s) ?_ (fun s9 x9 g9 => k_some (g9.P hq))
    refine k_bd (w_shows (d + 2) (by omega) ky1 y1 k1 n C L Γ1 τ1 l s1 (ex1.K hK) hv1.1.1 hv1.1.2.1 (by omega) (by omega) hy1 (ex1.Y hY1) (ex1.W hW1 (Nat.le_refl _) (Nat.le_refl _) (Nat.le_refl _) (Nat.le_refl _))) (fun s2 x2 g2 => ?_)
    obtain ⟨C1, L1, hv2, ex2, c1, c2, -, hs2⟩ := hv1.sh g2
    have ex12 : v_ex C L B W s s2 := ex1.tr ex2 (Nat.le_refl _) (Nat.le_refl _) (Nat.le_refl _) (Nat.le_refl _)
    have bC : C1 ≤ C + y1 := by rcases hs2 with ⟨-, s', ρ, fa, fb, la, lb, Γ, x1, x2, x3, y', yC, yL, -⟩ | ⟨-, yC, yL, -⟩ <;> omega
    have bL : L1 ≤ L + y1 := by rcases hs2 with ⟨-, s', ρ, fa, fb, la, lb, Γ, x1, x2, x3, y', yC, yL, -⟩ | ⟨-, yC, yL, -⟩ <;> omega
    rw [e_Rm_sameAsked_26]
    refine k_bd (w_shows (d + 2) (by omega) ky2 y2 k2 m C1 L1 Γ2 τ2 k s2 (ex12.K hK) hv2.1.1 hv2.1.2.1 (by omega) (by omega) hy2 (ex12.Y hY2) (ex12.W hW2 (Nat.le_refl _) c1 c2 (Nat.le_refl _))) (fun s3 x3 g3 => ?_)
    obtain ⟨C2, L2, hv3, ex3, c3, c4, -, hs3⟩ := hv2.sh g3
    have ex13 : v_ex C L B W s s3 := ex12.tr ex3 c1 c2 (Nat.le_refl _) (Nat.le_refl _)
    have bC2 : C2 ≤ C1 + y2 := by rcases hs3 with ⟨-, s', ρ, fa, fb, la, lb, Γ, x1, x2, x3, y', yC, yL, -⟩ | ⟨-, yC, yL, -⟩ <;> omega
    have bL2 : L2 ≤ L1 + y2 := by rcases hs3 with ⟨-, s', ρ, fa, fb, la, lb, Γ, x1, x2, x3, y', yC, yL, -⟩ | ⟨-, yC, yL, -⟩ <;> omega
    have nop : k_ok (some (s3, (0 : Int32))) (e_A C L B W t q (y1 + y2) (e_FG τ1 τ2 C L B t (y1 + y2)) s) := k_some ⟨ex13, C2, L2, B, W, t + 1, S + 1, hv3, ⟨by omega, by omega, by omega, by omega, by omega, by omega, by omega, by omega, by omega, by omega⟩, Or.inr ⟨by decide, Or.inl rfl⟩⟩
    rw [e_Rm_sameAsked_53]
    rcases hs2 with ⟨rfl, s', ρ, fa, fb, la, lb, Γa, j1, j2, j3, y', yC, yL, rfl, p43, p44, p45, p46, rfl, pF, pY, pW⟩ | ⟨rfl, yC, yL, hat, na, la, Γa, j1, j3, p47, p48, ⟨h1, hh1, pF⟩, pW⟩
    · rcases hs3 with ⟨rfl, s'', ρ2, ga, gb, ma, mb, Γb, i1, i2, i3, y'', zC, zL, rfl, o43, o44, o45, o46, rfl, oF, oY, oW⟩ | ⟨rfl, -⟩
      · rw [if_pos rfl, if_neg (by decide), p43, p44, p45, p46, o43, o44, o45, o46]
        obtain ⟨hs37, hoks, hokρ⟩ := id (show (f_n s' ≤ 37 ∧ f_fin s') ∧ f_ok s' ∧ f_ok ρ from hok1)
        obtain ⟨hs37', hoks', hokρ'⟩ := id (show (f_n s'' ≤ 37 ∧ f_fin s'') ∧ f_ok s'' ∧ f_ok ρ2 from hok2)
        refine k_bd (hFm C2 L2 B W (t + 1) (S + 1) 0 0 1 1 j3 i3 fa ga Γa Γb s' s'' la ma s3 hv3 (ex13.K hK) hoks hs37.2 hoks' hs37'.2 (o_F_Y (by omega) (ex3.F pF)) (o_F_Y (by omega) oF) (ex3.W pW (Nat.le_refl _) c3 c4 (Nat.le_refl _)) oW (by omega) (by omega) ⟨by omega, by omega, by omega, by omega⟩) (fun s4 x4 g4 => ?_)
        obtain ⟨ex4, C', L', B', W', t', S', hv4, ⟨m1, m2, m3, m4, m5, m6, m7, m8, m9, m10⟩, ans⟩ := g4
        have ex04 := ex13.tr ex4 (by omega) (by omega) (Nat.le_refl _) (Nat.le_refl _)
        rw [e_Rm_sameAsked_114]
        refine k_if (fun hx => ?_) (fun hx => ?_)
        · rcases ans with ⟨-, eq, gC, gL, gB⟩ | ⟨hx', -⟩
          · subst eq
            obtain ⟨σ5, es5, hv5, ex5, hw5⟩ := v_new (κ := κ) (nc := nc) (d + 2) (by omega) fa j1 j3 la 0 Γa s' s4 hv4 (by omega) (by omega) (ex4.F (ex3.F pF)) (ex4.W (ex3.W pW (Nat.le_refl _) c3 c4 (Nat.le_refl _)) (Nat.le_refl _) m1 m2 m4)
            rw [es5, c_bd_some]
            obtain ⟨⟨w1, w2, w3, w4, w5⟩, w6, w7, w8⟩ := id hv5
            obtain ⟨σ6, es6, f6, l1, l2, l3, l4⟩ := w_list (d + 2) (by omega) (nI C') la σ5 L' (by omega) w2
            rw [es6, c_bd_some]
            have ex6 : v_ex (C' + 1) L' B' (W' + 1) σ5 σ6 := ⟨z_F.mono f6 rfl, ⟨o_ag.of f6 rfl, fun h _ => by rw [f6.1 53 rfl (by decide), f6.1 54 rfl (by decide)]; exact ⟨rfl, rfl⟩, l4, fun h _ => by rw [f6.1 59 rfl (by decide), f6.1 60 rfl (by decide)]; exact ⟨rfl, rfl⟩⟩, fun i _ => by rw [f6.1 57 rfl (by decide), f6.1 58 rfl (by decide)]; exact ⟨rfl, rfl⟩⟩
            have hv6 : v_S (C' + 1) (L' + 1) B' (W' + 1) t' S' (q + 1) σ6 := ⟨⟨by rw [f6.2.1 30 rfl]; exact w1, l1, by rw [f6.2.1 36 rfl]; exact w3, ⟨by rw [f6.2.1 42 rfl]; exact w4.1, w4.2⟩, ⟨by rw [f6.2.1 41 rfl]; exact w5.1, w5.2⟩⟩, by rw [f6.2.1 40 rfl]; exact w6, by rw [f6.2.1 53 rfl]; exact w7, w8⟩
            obtain ⟨σ7, es7, f7, n1, n2, n3, n4⟩ := w_list (d + 2) (by omega) (nI C') ma σ6 (L' + 1) (by omega) hv6.1.2.1
            rw [es7, c_bd_some]
            have ex7 : v_ex (C' + 1) (L' + 1) B' (W' + 1) σ6 σ7 := ⟨z_F.mono f7 rfl, ⟨o_ag.of f7 rfl, fun h _ => by rw [f7.1 53 rfl (by decide), f7.1 54 rfl (by decide)]; exact ⟨rfl, rfl⟩, n4, fun h _ => by rw [f7.1 59 rfl (by decide), f7.1 60 rfl (by decide)]; exact ⟨rfl, rfl⟩⟩, fun i _ => by rw [f7.1 57 rfl (by decide), f7.1 58 rfl (by decide)]; exact ⟨rfl, rfl⟩⟩
            obtain ⟨⟨w1, w2, w3, w4, w5⟩, w6, w7, w8⟩ := id hv6
            have hv7 : v_S (C' + 1) (L' + 2) B' (W' + 1) t' S' (q + 1) σ7 := ⟨⟨by rw [f7.2.1 30 rfl]; exact w1, n1, by rw [f7.2.1 36 rfl]; exact w3, ⟨by rw [f7.2.1 42 rfl]; exact w4.1, w4.2⟩, ⟨by rw [f7.2.1 41 rfl]; exact w5.1, w5.2⟩⟩, by rw [f7.2.1 40 rfl]; exact w6, by rw [f7.2.1 53 rfl]; exact w7, w8⟩
            have ex46 : v_ex C' L' B' W' s4 σ6 := ex5.tr ex6 (by omega) (Nat.le_refl _) (Nat.le_refl _) (by omega)
            have ex47 : v_ex C' L' B' W' s4 σ7 := ex46.tr ex7 (by omega) (by omega) (Nat.le_refl _) (by omega)
            have ex37 : v_ex C2 L2 B W s3 σ7 := ex4.tr ex47 m1 m2 m3 m4
            have ex57 : v_ex (C' + 1) L' B' (W' + 1) σ5 σ7 := ex6.tr ex7 (Nat.le_refl _) (by omega) (Nat.le_refl _) (Nat.le_refl _)
            have hla : w_W σ7 κ nc (C' + 1) (L' + 2) (W' + 1) (j3 + 2) (.inr (nI L')) (s' :: Γa) := ⟨L', C', rfl, by omega, (n4 L' (by omega)).1.trans l2, ⟨hs37, hoks⟩, ex57.W hw5 (by omega) (Nat.le_refl _) (by omega) (Nat.le_refl _), by rw [(n4 L' (by omega)).2, l3]; exact ex37.W (ex3.W pW (Nat.le_refl _) c3 c4 (Nat.le_refl _)) (by omega) (by omega) (by omega) (by omega)⟩
            have hlb : w_W σ7 κ nc (C' + 1) (L' + 2) (W' + 1) (max (j3 + 2) i3 + 1) (.inr (nI (L' + 1))) (s' :: Γb) := ⟨L' + 1, C', rfl, by omega, n2, ⟨hs37, hoks⟩, ex57.W hw5 (by omega) (Nat.le_refl _) (by omega) (Nat.le_refl _), by rw [n3]; exact ex37.W oW (by omega) (by omega) (by omega) (by omega)⟩
            refine k_bd (hFm (C' + 1) (L' + 2) B' (W' + 1) t' S' y' y'' j2 i2 (j3 + 2) (max (j3 + 2) i3 + 1) fb gb (s' :: Γa) (s' :: Γb) ρ ρ2 (nI L') (nI (L' + 1)) σ7 hv7 (ex37.K (ex13.K hK)) hokρ hfin1 hokρ' hfin2 (ex37.Y (ex3.Y pY)) (ex37.Y oY) hla hlb (by omega) (by omega) ⟨by omega, by omega, by omega, by omega⟩) (fun s8 x8 g8 => k_some ?_)
            obtain ⟨ex8, C8, L8, B8, W8, t8, S8, hv8, ⟨o1, o2, o3, o4, o5, o6, o7, o8, o9, o10⟩, ans8⟩ := g8
            refine ⟨(ex04.tr ex47 (by omega) (by omega) m3 m4).tr ex8 (by omega) (by omega) (by omega) (by omega), C8, L8, B8, W8, t8, S8, hv8, ⟨by omega, by omega, by omega, by omega, by omega, o6, by omega, by omega, by omega, by omega⟩, ?_⟩
            rcases ans8 with ⟨h1, eq, gC8, gL8, gB8⟩ | h2
            · exact Or.inl ⟨h1, by rw [eq], by omega, by omega, by omega⟩
            · exact Or.inr h2
          · exact absurd hx hx'
        · rcases ans with ⟨hx', -⟩ | h2
          · exact absurd hx' hx
          · exact k_some ⟨ex04, C', L', B', W', t', S', hv4, ⟨by omega, by omega, by omega, by omega, by omega, m6, by omega, by omega, by omega, by omega⟩, Or.inr h2⟩
      · rw [if_neg (by decide)]; exact nop
    · rcases hs3 with ⟨rfl, -⟩ | ⟨rfl, zC, zL, hat2, nb, lb, Γb, i1, i3, o47, o48, ⟨h2, hh2, oF⟩, oW⟩
      · rw [if_neg (by decide)]; exact nop
      · rw [if_pos rfl, if_pos rfl, p47, p48, o47, o48]
        refine k_bd (e_spine κ nc d q (by omega) hO1 C L B W t (y1 + y2) C2 L2 (S + 1) na nb j3 i3 h1 h2 j1 i1 Γa Γb τ1 τ2 la lb s s3 q1 t1 hv3 (ex13.K hK) ex13 (by omega) (by omega) (by omega) (by omega) hat hat2 hfin1 hfin2 (ex3.F pF) oF (ex3.W pW (Nat.le_refl _) c3 c4 (Nat.le_refl _)) oW hr) (fun σ r g => k_some g)
/-- EQUAL of two families in the reference: it ends, within its room -/
theorem e_Fall (κ : Nat → Std.Format) (nc : Nat) : ∀ (m q d : Nat), q ≤ 100 → 100 ≤ q + m → 3 * m + 104 ≤ d → e_Fm κ nc d q
  | 0, q, d, hq, hm, hd => by
    obtain ⟨d, rfl⟩ : ∃ e, d = e + 4 := ⟨d - 4, by omega⟩
    exact e_Fstep κ nc d q (by omega) hq (fun h => absurd h (by omega))
  | m + 1, q, d, hq, hm, hd => by
    obtain ⟨d, rfl⟩ : ∃ e, d = e + 4 := ⟨d - 4, by omega⟩
    exact e_Fstep κ nc d q (by omega) hq (fun h => ⟨e_all κ nc m (q + 1) d (by omega) (by omega) (by omega), e_Fall κ nc m (q + 1) (d + 2) (by omega) (by omega) (by omega)⟩)
