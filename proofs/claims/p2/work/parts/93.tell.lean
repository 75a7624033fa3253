set_option maxHeartbeats 2000000 in
/-- a [ ] is told -/
theorem n_lam (κ : Nat → Std.Format) (nc d q : Nat) (hd : 90 ≤ d) (hO : n_O κ nc d (q + 1)) (hF : n_F κ nc d (q + 1)) (C L B W t y C1 L1 y' c kc fa fb k1 k2 k3 S1 : Nat) (Γ1 ρs : List Std.Format) (s' ρ : Std.Format) (la a dp ib : Int32) (s s2 : c_S) (hq : q < 100) (ht : t < 20000) (nv2 : n_S nc C1 L1 B W (t + 1) S1 (q + 1) s2) (hK : w_K s2 κ nc) (ex : n_ex C L B W s s2) (c1 : C ≤ C1) (c2 : L ≤ L1) (yC : C1 + y' ≤ C + y) (yL : L1 + y' ≤ L + y) (hok : f_ok (f_a s' ρ)) (hfin : f_fin (f_a s' ρ)) (p43 : s2.1 34 43 = nI fa) (p44 : s2.1 34 44 = la) (p45 : s2.1 34 45 = nI fb) (p46 : s2.1 34 46 = la) (hFa : o_F s2 κ nc k1 37 Γ1 fa s') (hY : o_Y s2 κ nc k2 y' (s' :: Γ1) fb ρ) (hW : w_W s2 κ nc C1 L1 W k3 (.inr la) Γ1) (ha : w_B s2 κ nc C1 L1 W B a ρs) (hc : w_W s2 κ nc C1 L1 W kc (.inl c) [f_l ρs (f_a s' ρ)]) (hlen : ρs.length + f_n (f_a s' ρ) ≤ 76) (hy : y' ≤ 16000) (hr : n_rm C L B W t q y) :
    k_ok (c_M (d + 1) 89 [v_r 34, v_i (nI c), v_i a, v_i dp, v_i ib] s2) (n_P nc C L B W t q (q + 1) y 0 (e_G C L B t y ρs.length (f_n (f_a s' ρ))) s) := by
  obtain ⟨r1, r2, r3, r4⟩ := id hr
  have hn1 : f_n (f_a s' ρ) = f_n ρ + 1 := rfl
  rw [hn1] at hlen ⊢
  obtain ⟨hs37, hoks, hokρ⟩ := id (show (f_n s' ≤ 37 ∧ f_fin s') ∧ f_ok s' ∧ f_ok ρ from hok)
  rw [m_Rm_tellLambda, e_Rm_tellLambda_0, p43, p44, p45, p46]
  have end154 : ∀ (σ : c_S) (r : Int32), n_P nc C L B W t q (q + 1) y 0 (e_G C L B t y ρs.length (f_n ρ + 1)) s σ r → k_ok (b_Rm_tellLambda_154 (c_M d) r σ) (n_P nc C L B W t q (q + 1) y 0 (e_G C L B t y ρs.length (f_n ρ + 1)) s) := fun σ r g => by
    obtain ⟨x, es, hx⟩ := n_ended d (by omega) r σ
    rw [e_Rm_tellLambda_154, es, c_bd_some]
    have nDσ : n_D σ := by obtain ⟨-, C', L', B', W', t', S', hh, -⟩ := g; exact hh.2.1
    exact k_some (g.say z_F.rf nDσ hx)
  have h79 : ∀ (s5 : c_S) (f25 : z_F [67] [64, 66] [] s2 s5) (σ : c_S) (r : Int32), n_P nc C1 L1 B W (t + 1) (q + 1) (q + 1) 0 0 (n_FG C1 L1 B (t + 1) 0) s5 σ r → k_ok (b_Rm_tellLambda_79 (c_M d) (nI c) a dp ib (nI fa) la (nI fb) la r σ) (n_P nc C L B W t q (q + 1) y 0 (e_G C L B t y ρs.length (f_n ρ + 1)) s) := by
    intro s5 f25 σ r g
    rw [e_Rm_tellLambda_79]
    have nDσ : n_D σ := by obtain ⟨-, C', L', B', W', t', S', hh, -⟩ := g; exact hh.2.1
    refine k_bd (n_say d (by omega) _ σ nDσ) (fun s7 x7 g7 => ?_)
    obtain ⟨x8, es8, hx8⟩ := n_ended d (by omega) r s7
    rw [es8, c_bd_some]
    obtain ⟨ex6, C', L', B', W', t', S', nv7, ⟨m1, m2, m3, m4, m5, m6, m7, m8, m9, m10⟩, gG⟩ := g.say g7.1 g7.2 hx8
    have ex27 : n_ex C1 L1 B W s2 s7 := (n_ex.say f25).tr ex6 (Nat.le_refl _) (Nat.le_refl _) (Nat.le_refl _) (Nat.le_refl _)
    have ex07 : n_ex C L B W s s7 := ex.tr ex27 c1 c2 (Nat.le_refl _) (Nat.le_refl _)
    refine k_if (fun hx => ?_) (fun hx => ?_)
    · obtain ⟨gC, gL, gB⟩ := gG hx
      obtain ⟨σ3, es3, hv3, ex3, hw3⟩ := v_new (κ := κ) (nc := nc) d (by omega) fa k1 k3 la dp Γ1 s' s7 nv7.1 (by omega) (by omega) (ex27.F hFa) (ex27.W hW (Nat.le_refl _) m1 m2 m4)
      rw [es3, c_bd_some, e_Rm_tellLambda_115]
      obtain ⟨σ4, ra, es4, hv4, ex4, hb4⟩ := v_append (κ := κ) (nc := nc) C' (k3 + 1) s' ρs d B' a σ3 (by omega) hv3 (by omega) (ex3.B (ex27.B ha m1 m2 m3 m4) (by omega) (Nat.le_refl _) (Nat.le_refl _) (by omega)) hw3
      rw [es4, c_bd_some]
      obtain ⟨⟨w1, w2, w3, w4, w5⟩, w6, w7, w8⟩ := id hv4
      obtain ⟨σ6, es6, f6, l1, l2, l3, l4⟩ := w_list d (by omega) (nI C') la σ4 L' (by omega) w2
      rw [es6, c_bd_some]
      have ex6' : v_ex (C' + 1) L' (B' + ρs.length + 1) (W' + 1) σ4 σ6 := ⟨z_F.mono f6 rfl, ⟨o_ag.of f6 rfl, fun h _ => by rw [f6.1 53 rfl (by decide), f6.1 54 rfl (by decide)]; exact ⟨rfl, rfl⟩, l4, fun h _ => by rw [f6.1 59 rfl (by decide), f6.1 60 rfl (by decide)]; exact ⟨rfl, rfl⟩⟩, fun i _ => by rw [f6.1 57 rfl (by decide), f6.1 58 rfl (by decide)]; exact ⟨rfl, rfl⟩⟩
      have ex36 : v_ex (C' + 1) L' B' (W' + 1) σ3 σ6 := ex4.tr ex6' (Nat.le_refl _) (Nat.le_refl _) (by omega) (Nat.le_refl _)
      have ex76 : v_ex C' L' B' W' s7 σ6 := ex3.tr ex36 (by omega) (Nat.le_refl _) (Nat.le_refl _) (by omega)
      have hv6 : v_S (C' + 1) (L' + 1) (B' + ρs.length + 1) (W' + 1) t' S' (q + 1) σ6 := ⟨⟨by rw [f6.2.1 30 rfl]; exact w1, l1, by rw [f6.2.1 36 rfl]; exact w3, ⟨by rw [f6.2.1 42 rfl]; exact w4.1, w4.2⟩, ⟨by rw [f6.2.1 41 rfl]; exact w5.1, w5.2⟩⟩, by rw [f6.2.1 40 rfl]; exact w6, by rw [f6.2.1 53 rfl]; exact w7, w8⟩
      have nv6 := nv7.v ex76 hv6
      have ex26 : n_ex C1 L1 B W s2 σ6 := ex27.tr ex76.n m1 m2 m3 m4
      have ex06 : n_ex C L B W s σ6 := ex.tr ex26 c1 c2 (Nat.le_refl _) (Nat.le_refl _)
      have hl6 : w_W σ6 κ nc (C' + 1) (L' + 1) (W' + 1) (k3 + 2) (.inr (nI L')) (s' :: Γ1) := ⟨L', C', rfl, by omega, l2, ⟨hs37, hoks⟩, ex36.W hw3 (by omega) (Nat.le_refl _) (by omega) (Nat.le_refl _), by rw [l3]; exact ex26.W hW (by omega) (by omega) (by omega) (by omega)⟩
      have hlen2 : (ρs ++ [s']).length = ρs.length + 1 := by rw [List.length_append]; rfl
      refine k_bd (hO (C' + 1) (L' + 1) (B' + ρs.length + 1) (W' + 1) t' S' y' k2 (k3 + 2) fb c kc (s' :: Γ1) (ρs ++ [s']) ρ (nI L') ra (dp + 1) 0 σ6 nv6 (ex26.K hK) hokρ hfin (ex26.Y hY) hl6 (ex6'.B hb4 (Nat.le_refl _) (by omega) (Nat.le_refl _) (Nat.le_refl _)) (by rw [f_l_app]; exact ex26.W hc (Nat.le_refl _) (by omega) (by omega) (by omega)) (by rw [hlen2]; omega) hy ⟨by omega, by omega, by omega, by omega⟩) (fun s8 x8 g8 => ?_)
      have g9 : n_P nc C L B W t q (q + 1) y 0 (e_G C L B t y ρs.length (f_n ρ + 1)) s s8 x8 := by
        obtain ⟨ex8, C8, L8, B8, W8, t8, S8, nv8, ⟨o1, o2, o3, o4, o5, o6, o7, o8, o9, o10⟩, gG8⟩ := g8
        refine ⟨ex06.tr ex8 (by omega) (by omega) (by omega) (by omega), C8, L8, B8, W8, t8, S8, nv8, ⟨by omega, by omega, by omega, by omega, by omega, o6, by omega, by omega, by omega, by omega⟩, fun e => ?_⟩
        obtain ⟨z1, z2, z3⟩ := gG8 e
        refine ⟨by omega, by omega, fun h37 => ?_⟩
        rw [hlen2] at z3
        have z3 := z3 (by omega)
        have en : ρs.length + 1 + f_n ρ = ρs.length + (f_n ρ + 1) := by omega
        have ei : (ρs.length + 1) * (ρs.length + 1) = ρs.length * ρs.length + 2 * ρs.length + 1 := by rw [Nat.add_mul, Nat.mul_add]; omega
        rw [en, ei] at z3
        omega
      refine k_if (fun _ => end154 s8 x8 g9) (fun _ => ?_)
      have nD8 : n_D s8 := by obtain ⟨-, C', L', B', W', t', S', hh, -⟩ := g9; exact hh.2.1
      exact k_bd (n_say d (by omega) _ s8 nD8) (fun σ' r' g' => end154 σ' x8 (g9.say g'.1 g'.2 id))
    · exact k_some ⟨ex07, C', L', B', W', t', S', nv7, ⟨by omega, by omega, by omega, by omega, by omega, m6, by omega, by omega, by omega, by omega⟩, fun e => absurd e hx⟩
  have h35 : ∀ (s3 : c_S), z_F [67] [64, 66] [] s2 s3 → n_D s3 → k_ok (b_Rm_tellLambda_35 (c_M d) (nI c) a dp ib (nI fa) la (nI fb) la s3) (n_P nc C L B W t q (q + 1) y 0 (e_G C L B t y ρs.length (f_n ρ + 1)) s) := by
    intro s3 f23 D3
    rw [e_Rm_tellLambda_35]
    refine k_bd (n_say d (by omega) _ s3 D3) (fun s4 x4 g4 => ?_)
    refine k_bd (n_sayVar d (by omega) _ s4 g4.2) (fun s5 x5 g5 => ?_)
    refine k_bd (n_say d (by omega) _ s5 g5.2) (fun s6 x6 g6 => ?_)
    have f26 : z_F [67] [64, 66] [] s2 s6 := z_F.tr f23 (z_F.tr g4.1 (z_F.tr g5.1 g6.1))
    have nv6 := nv2.say f26 g6.2
    have ex26 : n_ex C1 L1 B W s2 s6 := n_ex.say f26
    obtain ⟨x7, es7, hx7⟩ := n_ended d (by omega) 1 s6
    rw [es7, c_bd_some]
    refine k_if (fun _ => ?_) (fun hne => ?_)
    · exact k_bd (hF C1 L1 B W (t + 1) S1 0 1 k3 fa Γ1 s' la dp s6 nv6 (ex26.K hK) hoks hs37.2 (o_F_Y (by omega) (ex26.F hFa)) (ex26.W hW (Nat.le_refl _) (Nat.le_refl _) (Nat.le_refl _) (Nat.le_refl _)) (by omega) ⟨by omega, by omega, by omega, by omega⟩) (fun σ r g => h79 s6 f26 σ r g)
    · exact h79 s6 f26 s6 x7 ⟨n_ex.rf, C1, L1, B, W, t + 1, S1, nv6, ⟨Nat.le_refl _, Nat.le_refl _, Nat.le_refl _, Nat.le_refl _, Nat.le_refl _, by omega, by omega, by omega, by omega, Nat.le_refl _⟩, fun e => absurd e hne⟩
  refine k_if (fun _ => h35 s2 z_F.rf nv2.2.1) (fun _ => ?_)
  rw [e_Rm_tellLambda_29]
  exact k_bd (n_say d (by omega) _ s2 nv2.2.1) (fun σ r g => h35 σ g.1 g.2)
set_option maxHeartbeats 1000000 in
theorem n_Ostep (κ : Nat → Std.Format) (nc d q : Nat) (hd : 90 ≤ d) (hq : q ≤ 100) (hI : q < 100 → n_O κ nc d (q + 1) ∧ n_O κ nc (d + 1) (q + 1) ∧ n_F κ nc (d + 1) (q + 1)) : n_O κ nc (d + 3) q := by
  intro C L B W t S y ky k n c kc Γ ρs τ l a dp ib s hv hK hok hfin hY hW ha hc hlen hy hr
  obtain ⟨r1, r2, r3, r4⟩ := id hr
  have ht := hv.1.1.2.2.2.1.2
  rw [m_Rm_tellObject, e_Rm_tellObject_0]
  have no : ∀ r : Int32, ¬ r = 1 → k_ok (some (s, r)) (n_P nc C L B W t q q y 0 (e_G C L B t y ρs.length (f_n τ)) s) := fun r h => k_some ⟨n_ex.rf, C, L, B, W, t, S, hv, ⟨Nat.le_refl _, Nat.le_refl _, Nat.le_refl _, Nat.le_refl _, Nat.le_refl _, ht, by omega, by omega, by omega, Nat.le_refl _⟩, fun e => absurd e h⟩
  rcases v_asks (d + 2) (by omega) s hv.1 with h | h | ⟨s1, h, t1, q1, hv1, ex1⟩
  · rw [h, c_bd_some, if_neg (by decide)]
    exact no 10 (by decide)
  · rw [h, c_bd_some, if_neg (by decide)]
    exact no 9 (by decide)
  obtain ⟨hO0, hO1, hF1⟩ := hI q1
  have dn : ∀ (σ : c_S) (r : Int32), n_P nc C L B W t q (q + 1) y 0 (e_G C L B t y ρs.length (f_n τ)) s σ r → k_ok (b_Rm_tellObject_52 (c_M (d + 2)) r σ) (n_P nc C L B W t q q y 0 (e_G C L B t y ρs.length (f_n τ)) s) := fun σ r g => by
    rw [e_Rm_tellObject_52]
    exact k_some (g.dn hq)
  rw [h, c_bd_some, if_pos rfl]
  refine k_bd (w_shows (d + 2) (by omega) ky y k n C L Γ τ l s1 (ex1.K hK) hv1.1.1 hv1.1.2.1 (by omega) (by omega) hy (ex1.Y hY) (ex1.W hW (Nat.le_refl _) (Nat.le_refl _) (Nat.le_refl _) (Nat.le_refl _))) (fun s2 x2 g2 => ?_)
  obtain ⟨C1, L1, hv2, ex2, c1, c2, -, hs⟩ := hv1.sh g2
  have ex12 : v_ex C L B W s s2 := ex1.tr ex2 (Nat.le_refl _) (Nat.le_refl _) (Nat.le_refl _) (Nat.le_refl _)
  have nv2 := hv.v ex12 hv2
  have ha2 := ex12.B ha c1 c2 (Nat.le_refl _) (Nat.le_refl _)
  have hc2 := ex12.W hc (Nat.le_refl _) c1 c2 (Nat.le_refl _)
  rcases hs with ⟨rfl, s', ρ, fa, fb, la, lb, Γ1, k1, k2, k3, y', yC, yL, rfl, p43, p44, p45, p46, rfl, pF, pY, pW⟩ | ⟨rfl, yC, yL, hat, -⟩
  · rw [if_neg (by decide)]
    exact k_bd (n_lam κ nc (d + 1) q (by omega) hO1 hF1 C L B W t y C1 L1 y' c kc fa fb k1 k2 k3 (S + 1) Γ1 ρs s' ρ la a dp ib s s2 q1 t1 nv2 (ex12.K hK) ex12.n c1 c2 yC yL hok hfin p43 p44 p45 p46 pF pY pW ha2 hc2 hlen (by omega) hr) (fun σ r g => dn σ r g)
  · rw [if_pos rfl]
    exact k_bd (n_head κ nc d q hd hO0 C L B W t y C1 L1 c kc (S + 1) ρs τ a dp ib s s2 q1 t1 nv2 (ex12.K hK) ex12.n c1 c2 yC yL hat ha2 hc2 (by omega) hr) (fun σ r g => dn σ r g)
/-- telling ends, within its room -/
theorem n_all (κ : Nat → Std.Format) (nc : Nat) : ∀ (m q d : Nat), q ≤ 100 → 100 ≤ q + m → 3 * m + 100 ≤ d → n_O κ nc d q ∧ n_F κ nc d q
  | 0, q, d, hq, hm, hd => by
    obtain ⟨d, rfl⟩ : ∃ e, d = e + 3 := ⟨d - 3, by omega⟩
    exact ⟨n_Ostep κ nc d q (by omega) hq (fun h => absurd h (by omega)), n_Fstep κ nc (d + 1) q (by omega) hq (fun h => absurd h (by omega))⟩
  | m + 1, q, d, hq, hm, hd => by
    obtain ⟨d, rfl⟩ : ∃ e, d = e + 3 := ⟨d - 3, by omega⟩
    have ih : ∀ d', d ≤ d' → q < 100 → n_O κ nc d' (q + 1) ∧ n_F κ nc d' (q + 1) := fun d' h1 h2 => n_all κ nc m (q + 1) d' (by omega) (by omega) (by omega)
    exact ⟨n_Ostep κ nc d q (by omega) hq (fun h => ⟨(ih d (by omega) h).1, (ih (d + 1) (by omega) h).1, (ih (d + 1) (by omega) h).2⟩), n_Fstep κ nc (d + 1) q (by omega) hq (fun h => ⟨(ih (d + 1) (by omega) h).1, (ih (d + 2) (by omega) h).2⟩)⟩
