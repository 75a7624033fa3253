set_option maxHeartbeats 2000000 in
/-- a family is told -/
theorem n_Fstep (κ : Nat → Std.Format) (nc d q : Nat) (hd : 90 ≤ d) (hq : q ≤ 100) (hI : q < 100 → n_O κ nc d (q + 1) ∧ n_F κ nc (d + 1) (q + 1)) : n_F κ nc (d + 2) q := by
  intro C L B W t S y ky k n Γ τ l dp s hv hK hok hfin hY hW hy hr
  obtain ⟨r1, r2, r3, r4⟩ := id hr
  have ht := hv.1.1.2.2.2.1.2
  rw [m_Rm_tellFamily, e_Rm_tellFamily_0]
  have no : ∀ r : Int32, ¬ r = 1 → k_ok (some (s, r)) (n_P nc C L B W t q q y 0 (n_FG C L B t y) s) := fun r h => k_some ⟨n_ex.rf, C, L, B, W, t, S, hv, ⟨Nat.le_refl _, Nat.le_refl _, Nat.le_refl _, Nat.le_refl _, Nat.le_refl _, ht, by omega, by omega, by omega, Nat.le_refl _⟩, fun e => absurd e h⟩
  rcases v_asks (d + 1) (by omega) s hv.1 with h | h | ⟨s1, h, t1, q1, hv1, ex1⟩
  · rw [h, c_bd_some, if_neg (by decide)]
    exact no 10 (by decide)
  · rw [h, c_bd_some, if_neg (by decide)]
    exact no 9 (by decide)
  obtain ⟨hO1, hF1⟩ := hI q1
  have dn : ∀ (σ : c_S) (r : Int32), n_P nc C L B W t q (q + 1) y 0 (n_FG C L B t y) s σ r → k_ok (b_Rm_tellFamily_225 (c_M (d + 1)) r σ) (n_P nc C L B W t q q y 0 (n_FG C L B t y) s) := fun σ r g => by
    rw [e_Rm_tellFamily_225]
    exact k_some (g.dn hq)
  rw [h, c_bd_some, if_pos rfl]
  refine k_bd (w_shows (d + 1) (by omega) ky y k n C L Γ τ l s1 (ex1.K hK) hv1.1.1 hv1.1.2.1 (by omega) (by omega) hy (ex1.Y hY) (ex1.W hW (Nat.le_refl _) (Nat.le_refl _) (Nat.le_refl _) (Nat.le_refl _))) (fun s2 x2 g2 => ?_)
  obtain ⟨C1, L1, hv2, ex2, c1, c2, -, hs2⟩ := hv1.sh g2
  have ex12 : v_ex C L B W s s2 := ex1.tr ex2 (Nat.le_refl _) (Nat.le_refl _) (Nat.le_refl _) (Nat.le_refl _)
  have nv2 := hv.v ex12 hv2
  rcases hs2 with ⟨rfl, s', ρ, fa, fb, la, lb, Γa, j1, j2, j3, y', yC, yL, rfl, p43, p44, p45, p46, rfl, pF, pY, pW⟩ | ⟨rfl, yC, yL, hat, na, la, Γa, j1, j3, p47, p48, ⟨h1, hh1, pF⟩, pW⟩
  · obtain ⟨hs37, hoks, hokρ⟩ := id (show (f_n s' ≤ 37 ∧ f_fin s') ∧ f_ok s' ∧ f_ok ρ from hok)
    rw [if_neg (by decide), e_Rm_tellFamily_36, p43, p44, p45, p46]
    refine k_bd (n_say (d + 1) (by omega) _ s2 nv2.2.1) (fun s3 x3 g3 => ?_)
    refine k_bd (n_sayVar (d + 1) (by omega) _ s3 g3.2) (fun s4 x4 g4 => ?_)
    refine k_bd (n_say (d + 1) (by omega) _ s4 g4.2) (fun s5 x5 g5 => ?_)
    have f25 : z_F [67] [64, 66] [] s2 s5 := z_F.tr g3.1 (z_F.tr g4.1 g5.1)
    have nv5 := nv2.say f25 g5.2
    have ex5 : n_ex C L B W s s5 := ex12.n.tr (n_ex.say f25) c1 c2 (Nat.le_refl _) (Nat.le_refl _)
    have ex25 : n_ex C1 L1 B W s2 s5 := n_ex.say f25
    obtain ⟨x6, es6, hx6⟩ := n_ended (d + 1) (by omega) 1 s5
    rw [es6, c_bd_some, e_Rm_tellFamily_72]
    have go : ∀ (σ : c_S) (r : Int32), n_P nc C1 L1 B W (t + 1) (q + 1) (q + 1) 0 0 (n_FG C1 L1 B (t + 1) 0) s5 σ r → k_ok (b_Rm_tellFamily_92 (c_M (d + 1)) dp (nI fa) la (nI fb) la r σ) (n_P nc C L B W t q q y 0 (n_FG C L B t y) s) := by
      intro σ r g
      rw [e_Rm_tellFamily_92]
      have nDσ : n_D σ := by obtain ⟨-, C', L', B', W', t', S', hh, -⟩ := g; exact hh.2.1
      refine k_bd (n_say (d + 1) (by omega) _ σ nDσ) (fun s7 x7 g7 => ?_)
      obtain ⟨x8, es8, hx8⟩ := n_ended (d + 1) (by omega) r s7
      rw [es8, c_bd_some]
      obtain ⟨ex6, C', L', B', W', t', S', nv7, ⟨m1, m2, m3, m4, m5, m6, m7, m8, m9, m10⟩, gG⟩ := g.say g7.1 g7.2 hx8
      have ex57 : n_ex C1 L1 B W s2 s7 := ex25.tr ex6 (Nat.le_refl _) (Nat.le_refl _) (Nat.le_refl _) (Nat.le_refl _)
      have ex07 : n_ex C L B W s s7 := ex12.n.tr ex57 c1 c2 (Nat.le_refl _) (Nat.le_refl _)
      refine k_if (fun hx => ?_) (fun hx => ?_)
      · obtain ⟨gC, gL, gB⟩ := gG hx
        obtain ⟨σ5, es5, hv5, ex5', hw5⟩ := v_new (κ := κ) (nc := nc) (d + 1) (by omega) fa j1 j3 la dp Γa s' s7 nv7.1 (by omega) (by omega) (ex57.F pF) (ex57.W pW (Nat.le_refl _) m1 m2 m4)
        rw [es5, c_bd_some]
        obtain ⟨⟨w1, w2, w3, w4, w5⟩, w6, w7, w8⟩ := id hv5
        obtain ⟨σ6, es6, f6, l1, l2, l3, l4⟩ := w_list (d + 1) (by omega) (nI C') la σ5 L' (by omega) w2
        rw [es6, c_bd_some]
        have ex6' : v_ex (C' + 1) L' B' (W' + 1) σ5 σ6 := ⟨z_F.mono f6 rfl, ⟨o_ag.of f6 rfl, fun h _ => by rw [f6.1 53 rfl (by decide), f6.1 54 rfl (by decide)]; exact ⟨rfl, rfl⟩, l4, fun h _ => by rw [f6.1 59 rfl (by decide), f6.1 60 rfl (by decide)]; exact ⟨rfl, rfl⟩⟩, fun i _ => by rw [f6.1 57 rfl (by decide), f6.1 58 rfl (by decide)]; exact ⟨rfl, rfl⟩⟩
        have hv6 : v_S (C' + 1) (L' + 1) B' (W' + 1) t' S' (q + 1) σ6 := ⟨⟨by rw [f6.2.1 30 rfl]; exact w1, l1, by rw [f6.2.1 36 rfl]; exact w3, ⟨by rw [f6.2.1 42 rfl]; exact w4.1, w4.2⟩, ⟨by rw [f6.2.1 41 rfl]; exact w5.1, w5.2⟩⟩, by rw [f6.2.1 40 rfl]; exact w6, by rw [f6.2.1 53 rfl]; exact w7, w8⟩
        have ex76 : v_ex C' L' B' W' s7 σ6 := ex5'.tr ex6' (by omega) (Nat.le_refl _) (Nat.le_refl _) (by omega)
        have nv6 := nv7.v ex76 hv6
        have ex26 : n_ex C1 L1 B W s2 σ6 := ex57.tr ex76.n m1 m2 m3 m4
        have ex06 : n_ex C L B W s σ6 := ex12.n.tr ex26 c1 c2 (Nat.le_refl _) (Nat.le_refl _)
        have hla : w_W σ6 κ nc (C' + 1) (L' + 1) (W' + 1) (j3 + 2) (.inr (nI L')) (s' :: Γa) := ⟨L', C', rfl, by omega, l2, ⟨hs37, hoks⟩, ex6'.W hw5 (by omega) (Nat.le_refl _) (by omega) (Nat.le_refl _), by rw [l3]; exact ex26.W pW (by omega) (by omega) (by omega) (by omega)⟩
        refine k_bd (hF1 (C' + 1) (L' + 1) B' (W' + 1) t' S' y' j2 (j3 + 2) fb (s' :: Γa) ρ (nI L') _ σ6 nv6 (ex06.K hK) hokρ hfin (ex26.Y pY) hla (by omega) ⟨by omega, by omega, by omega, by omega⟩) (fun s8 x8 g8 => dn s8 x8 ?_)
        obtain ⟨ex8, C8, L8, B8, W8, t8, S8, nv8, ⟨o1, o2, o3, o4, o5, o6, o7, o8, o9, o10⟩, gG8⟩ := g8
        refine ⟨ex06.tr ex8 (by omega) (by omega) (by omega) (by omega), C8, L8, B8, W8, t8, S8, nv8, ⟨by omega, by omega, by omega, by omega, by omega, o6, by omega, by omega, by omega, by omega⟩, fun e => ?_⟩
        obtain ⟨z1, z2, z3⟩ := gG8 e
        exact ⟨by omega, by omega, by omega⟩
      · exact dn s7 x8 ⟨ex07, C', L', B', W', t', S', nv7, ⟨by omega, by omega, by omega, by omega, by omega, m6, by omega, by omega, by omega, by omega⟩, fun e => absurd e hx⟩
    refine k_if (fun _ => ?_) (fun hne => ?_)
    · exact k_bd (hF1 C1 L1 B W (t + 1) (S + 1) 0 1 j3 fa Γa s' la dp s5 nv5 (ex5.K hK) hoks hs37.2 (o_F_Y (by omega) (ex25.F pF)) (ex25.W pW (Nat.le_refl _) (Nat.le_refl _) (Nat.le_refl _) (Nat.le_refl _)) (by omega) ⟨by omega, by omega, by omega, by omega⟩) (fun σ r g => go σ r g)
    · exact go s5 x6 ⟨n_ex.rf, C1, L1, B, W, t + 1, S + 1, nv5, ⟨Nat.le_refl _, Nat.le_refl _, Nat.le_refl _, Nat.le_refl _, Nat.le_refl _, by omega, by omega, by omega, by omega, Nat.le_refl _⟩, fun e => absurd e hne⟩
  · rw [if_pos rfl, p47, p48]
    obtain ⟨cc, u1, v1, p1, p2, p3, p4, p5⟩ := o_F_spine pF hat hfin
    have hK2 := ex12.K hK
    have hnc := hK2.1
    obtain ⟨s3, b3, C3, B3, τs1, es3, hv3, ex3, eC3, eB3, hB3, h51, hκ1⟩ := v_behindOf (d + 1) (by omega) u1 v1 u1 na cc j3 Γa la s2 p2 p1 hv2 hK2 p4 p5 pW (by omega) (by omega)
    have len1 : τs1.length ≤ 38 := by
      have := (hK2.2 cc p2).1.1
      rw [hκ1, f_l_n f_t_at] at this; exact this
    have nv3 := nv2.v ex3 hv3
    have ex03 : n_ex C L B W s s3 := (ex12.tr ex3 c1 c2 (Nat.le_refl _) (Nat.le_refl _)).n
    obtain ⟨nm1, nm2⟩ := nv3.2.2 cc p2
    rw [es3, c_bd_some, e_Rm_tellFamily_162, h51, c_rg_nI (by omega) (by decide), nI_clamp (show cc < 2 ^ 31 by omega)]
    refine k_bd (n_sayPart (d + 1) (by omega) _ 9 (by omega) (by omega) nm1 s3 nv3.2.1) (fun s4 x4 g4 => ?_)
    rw [c_rg_nI (by omega) (by decide), g4.1.2.2 48 rfl]
    refine k_bd (n_sayPart (d + 1) (by omega) _ 3 (by omega) (by omega) nm2 s4 g4.2) (fun s5 x5 g5 => ?_)
    have f35 : z_F [67] [64, 66] [] s3 s5 := z_F.tr g4.1 g5.1
    have nv5 := nv3.say f35 g5.2
    have ex05 : n_ex C L B W s s5 := ex03.tr (n_ex.say f35) (Nat.le_refl _) (Nat.le_refl _) (Nat.le_refl _) (Nat.le_refl _)
    have ex35 : n_ex C3 L1 B3 W s3 s5 := n_ex.say f35
    obtain ⟨x6, es6, hx6⟩ := n_ended (d + 1) (by omega) 1 s5
    rw [es6, c_bd_some]
    refine k_if (fun _ => ?_) (fun hne => ?_)
    · have hK5 := ex05.K hK
      obtain ⟨hκ, ⟨t5, k5, y1, y2⟩, -⟩ := hK5.2 cc p2
      rw [c_rg_nI (by omega) (by decide), y1, m_Rm_tellBehind, e_Rm_tellBehind_0]
      rw [hκ1] at hκ y2
      refine k_bd (n_rows κ nc d (q + 1) (by omega) hO1 f_t f_t_at (by omega) dp τs1 C3 L1 B3 W (t + 1) (S + 1) 0 1 1 t5 [] (-1) b3 s5 nv5 hK5 hκ.2 (o_F_Y (Nat.le_refl _) y2) rfl (ex35.B hB3 (Nat.le_refl _) (Nat.le_refl _) (Nat.le_refl _) (Nat.le_refl _)) (by omega) ⟨by omega, by omega, by omega, by omega⟩) (fun s8 x8 g8 => dn s8 x8 ?_)
      obtain ⟨ex8, C8, L8, B8, W8, t8, S8, nv8, ⟨o1, o2, o3, o4, o5, o6, o7, o8, o9, o10⟩, gG8⟩ := g8
      refine ⟨ex05.tr ex8 (by omega) (by omega) (by omega) (by omega), C8, L8, B8, W8, t8, S8, nv8, ⟨by omega, by omega, by omega, by omega, by omega, o6, by omega, by omega, by omega, by omega⟩, fun e => ?_⟩
      obtain ⟨z1, z2, z3⟩ := gG8 e
      exact ⟨by omega, by omega, by omega⟩
    · exact dn s5 x6 ⟨ex05, C3, L1, B3, W, t + 1, S + 1, nv5, ⟨by omega, by omega, by omega, by omega, by omega, by omega, by omega, by omega, by omega, by omega⟩, fun e => absurd e hne⟩
set_option maxHeartbeats 2000000 in
/-- a HEAD FORM is told -/
theorem n_head (κ : Nat → Std.Format) (nc d q : Nat) (hd : 90 ≤ d) (hO : n_O κ nc d (q + 1)) (C L B W t y C1 L1 c kc S1 : Nat) (ρs : List Std.Format) (τ : Std.Format) (a dp ib : Int32) (s s2 : c_S) (hq : q < 100) (ht : t < 20000) (nv2 : n_S nc C1 L1 B W (t + 1) S1 (q + 1) s2) (hK : w_K s2 κ nc) (ex : n_ex C L B W s s2) (c1 : C ≤ C1) (c2 : L ≤ L1) (yC : C1 ≤ C + y) (yL : L1 ≤ L + y) (hat : f_at τ) (ha : w_B s2 κ nc C1 L1 W B a ρs) (hc : w_W s2 κ nc C1 L1 W kc (.inl c) [f_l ρs τ]) (hlen : ρs.length ≤ 76) (hr : n_rm C L B W t q y) :
    k_ok (c_M (d + 2) 90 [v_r 34, v_i (nI c), v_i a, v_i dp, v_i ib] s2) (n_P nc C L B W t q (q + 1) y 0 (e_G C L B t y ρs.length (f_n τ)) s) := by
  obtain ⟨r1, r2, r3, r4⟩ := id hr
  have hnc := hK.1
  have hW24 : W ≤ 24000 := by omega
  have hn0 : f_n τ = 0 := f_at_n hat
  rw [hn0, m_Rm_tellHead, e_Rm_tellHead_0]
  refine k_bd (w_heads (d + 1) (by omega) hW24 C1 L1 B (t + 1) S1 c kc ρs τ a s2 nv2.1.1 hK hat hc ha ⟨by omega, by omega, by omega⟩ hlen) (fun s3 x3 g3 => ?_)
  obtain ⟨wx3, C3, L3, B3, t3, S3, hu3, i1, i2, i3, i4, i5, i6, i7, ans3⟩ := g3
  have hv3 := nv2.1.hd wx3 hu3
  have nv3 := nv2.v wx3.v hv3
  have ht3 := hu3.2.2.2.1.2
  have ex3 : n_ex C L B W s s3 := ex.tr wx3.v.n c1 c2 (Nat.le_refl _) (Nat.le_refl _)
  rcases ans3 with rfl | ⟨rfl, τs3, hB3, j1, j2, hH3⟩
  · rw [if_pos (by decide)]
    exact k_some ⟨ex3, C3, L3, B3, W, t3, S3, nv3, ⟨by omega, by omega, by omega, by omega, by omega, ht3, by omega, by omega, by omega, by omega⟩, fun e => absurd e (by decide)⟩
  rw [if_neg (by decide)]
  -- the end: a bracket perhaps
  have end181 : ∀ (σ : c_S) (r : Int32), n_P nc C L B W t q (q + 1) y 0 (e_G C L B t y ρs.length 0) s σ r → k_ok (b_Rm_tellHead_181 (c_M (d + 1)) r σ) (n_P nc C L B W t q (q + 1) y 0 (e_G C L B t y ρs.length 0) s) := fun σ r g => by
    obtain ⟨x, es, hx⟩ := n_ended (d + 1) (by omega) r σ
    rw [e_Rm_tellHead_181, es, c_bd_some]
    have nDσ : n_D σ := by obtain ⟨-, C', L', B', W', t', S', hh, -⟩ := g; exact hh.2.1
    exact k_some (g.say z_F.rf nDσ hx)
  have end168 : ∀ (i8 : Int32) (σ : c_S) (r : Int32), n_P nc C L B W t q (q + 1) y 0 (e_G C L B t y ρs.length 0) s σ r → k_ok (b_Rm_tellHead_168 (c_M (d + 1)) i8 r σ) (n_P nc C L B W t q (q + 1) y 0 (e_G C L B t y ρs.length 0) s) := fun i8 σ r g => by
    have nDσ : n_D σ := by obtain ⟨-, C', L', B', W', t', S', hh, -⟩ := g; exact hh.2.1
    rw [e_Rm_tellHead_168]
    exact k_if (fun _ => end181 σ r g) (fun _ => k_bd (n_say (d + 1) (by omega) _ σ nDσ) (fun σ' r' g' => end181 σ' r (g.say g'.1 g'.2 id)))
  -- behind the head
  have fin : ∀ (i8 : Int32) (σ : c_S) (n ky k : Nat) (Γ : List Std.Format) (l : Int32), z_F [67] [64, 66] [] s3 σ → n_D σ → f_ok (f_l τs3 τ) → o_Y s3 κ nc ky 0 Γ n (f_l τs3 τ) → w_W s3 κ nc C3 L3 W k (.inr l) Γ → k_ok (c_bd (c_M (d + 1) 87 [v_r 34, v_i (nI n), v_i l, v_i (s3.1 34 52), v_i dp] σ) fun s1 x1 => b_Rm_tellHead_168 (c_M (d + 1)) i8 x1 s1) (n_P nc C L B W t q (q + 1) y 0 (e_G C L B t y ρs.length 0) s) := by
    intro i8 σ n ky k Γ l f hD hok hY hWl
    have nvσ := nv3.say f hD
    have e3σ : n_ex C3 L3 B3 W s3 σ := n_ex.say f
    have e0σ : n_ex C L B W s σ := ex3.tr e3σ (by omega) (by omega) (by omega) (Nat.le_refl _)
    rw [m_Rm_tellBehind, e_Rm_tellBehind_0]
    refine k_bd (n_rows κ nc d (q + 1) (by omega) hO τ hat (by omega) dp τs3 C3 L3 B3 W t3 S3 0 ky k n Γ l (s3.1 34 52) σ nvσ (e3σ.K (wx3.K hK)) hok (e3σ.Y hY) (e3σ.W hWl (Nat.le_refl _) (Nat.le_refl _) (Nat.le_refl _) (Nat.le_refl _)) (e3σ.B hB3 (Nat.le_refl _) (Nat.le_refl _) (Nat.le_refl _) (Nat.le_refl _)) (by omega) ⟨by omega, by omega, by omega, by omega⟩) (fun s5 x5 g5 => end168 i8 s5 x5 ?_)
    obtain ⟨ex5, C', L', B', W', t', S', hv5, ⟨m1, m2, m3, m4, m5, m6, m7, m8, m9, m10⟩, gG⟩ := g5
    refine ⟨e0σ.tr ex5 (by omega) (by omega) (by omega) (Nat.le_refl _), C', L', B', W', t', S', hv5, ⟨by omega, by omega, by omega, by omega, by omega, m6, by omega, by omega, by omega, by omega⟩, fun h1 => ?_⟩
    obtain ⟨gC, gL, gB⟩ := gG h1
    refine ⟨by omega, by omega, fun h37 => ?_⟩
    have h37 : ρs.length ≤ 37 := h37
    show B' + 19 + ρs.length * (37 - ρs.length) + ρs.length * ρs.length + 19 * t ≤ B + 19 * t' + 18 * ρs.length
    have e37 : ρs.length * (37 - ρs.length) + ρs.length * ρs.length = 37 * ρs.length := by
      rw [← Nat.mul_add, Nat.mul_comm 37]
      congr 1
      omega
    omega
  have stop : ∀ (i8 : Int32) (σ : c_S) (r : Int32), z_F [67] [64, 66] [] s3 σ → n_D σ → ¬ r = 1 → k_ok (b_Rm_tellHead_168 (c_M (d + 1)) i8 r σ) (n_P nc C L B W t q (q + 1) y 0 (e_G C L B t y ρs.length 0) s) := fun i8 σ r f hD hne => end168 i8 σ r ⟨ex3.tr (n_ex.say f) (by omega) (by omega) (by omega) (Nat.le_refl _), C3, L3, B3, W, t3, S3, nv3.say f hD, ⟨by omega, by omega, by omega, by omega, by omega, ht3, by omega, by omega, by omega, by omega⟩, fun e => absurd e hne⟩
  have h56 : ∀ (i8 : Int32) (σ : c_S), z_F [67] [64, 66] [] s3 σ → n_D σ → k_ok (b_Rm_tellHead_56 (c_M (d + 1)) dp (s3.1 34 51) (s3.1 34 52) i8 σ) (n_P nc C L B W t q (q + 1) y 0 (e_G C L B t y ρs.length 0) s) := by
    intro i8 σ f hD
    rcases hH3 with ⟨cc, x1, x2, x3⟩ | ⟨w, tt, Γ, k, kk, x1, x2, x3, x4, x5⟩
    · obtain ⟨hκ, ⟨t5, k5, y1, y2⟩, -⟩ := (wx3.K hK).2 cc x2
      obtain ⟨nm1, nm2⟩ := nv3.2.2 cc x2
      rw [x3] at hκ y2
      rw [x1, e_Rm_tellHead_56, if_neg (nI_pos (by omega)), c_rg_nI (by omega) (by decide), nI_clamp (show cc < 2 ^ 31 by omega)]
      rw [f.2.2 47 rfl]
      refine k_bd (n_sayPart (d + 1) (by omega) _ 9 (by omega) (by omega) nm1 σ hD) (fun s4 z4 g4 => ?_)
      rw [c_rg_nI (by omega) (by decide), g4.1.2.2 48 rfl, f.2.2 48 rfl]
      refine k_bd (n_sayPart (d + 1) (by omega) _ 3 (by omega) (by omega) nm2 s4 g4.2) (fun s5 z5 g5 => ?_)
      have f35 : z_F [67] [64, 66] [] s3 s5 := z_F.tr f (z_F.tr g4.1 g5.1)
      obtain ⟨x6, es6, hx6⟩ := n_ended (d + 1) (by omega) 1 s5
      rw [e_Rm_tellHead_100, es6, c_bd_some]
      refine k_if (fun _ => ?_) (fun hne => stop i8 s5 x6 f35 g5.2 hne)
      rw [if_neg (nI_pos (by omega)), c_rg_nI (by omega) (by decide), nI_clamp (show cc < 2 ^ 31 by omega), f35.1 50 rfl (by decide), y1]
      exact fin i8 s5 t5 1 1 [] (-1) f35 g5.2 hκ.2 (o_F_Y (Nat.le_refl _) y2) rfl
    · have hw : w < 24000 := by omega
      rw [x1, e_Rm_tellHead_56, if_pos (w_neg hw), w_negI hw, c_rg_nI hw (by decide)]
      refine k_bd (n_sayVar (d + 1) (by omega) _ σ hD) (fun s5 z5 g5 => ?_)
      have f35 : z_F [67] [64, 66] [] s3 s5 := z_F.tr f g5.1
      obtain ⟨x6, es6, hx6⟩ := n_ended (d + 1) (by omega) 1 s5
      rw [e_Rm_tellHead_100, es6, c_bd_some]
      refine k_if (fun _ => ?_) (fun hne => stop i8 s5 x6 f35 g5.2 hne)
      rw [if_pos (w_neg hw), w_negI hw, c_rg_nI hw (by decide), c_rg_nI hw (by decide), nI_clamp (show w < 2 ^ 31 by omega), f35.1 59 rfl (by decide), f35.1 60 rfl (by decide), x3]
      exact fin i8 s5 tt 1 k Γ _ f35 g5.2 (o_F_ok kk 37 Γ tt _ (by omega) x4).2 (o_F_Y (by omega) x4) x5
  have h43 : ∀ t0 : Int32, k_ok (b_Rm_tellHead_43 (c_M (d + 1)) dp (s3.1 34 51) (s3.1 34 52) t0 s3) (n_P nc C L B W t q (q + 1) y 0 (e_G C L B t y ρs.length 0) s) := fun t0 => by
    rw [e_Rm_tellHead_43]
    exact k_if (fun _ => h56 t0 s3 z_F.rf nv3.2.1) (fun _ => k_bd (n_say (d + 1) (by omega) _ s3 nv3.2.1) (fun σ r g => h56 t0 σ g.1 g.2))
  have h42 : k_ok (b_Rm_tellHead_42 (c_M (d + 1)) dp (s3.1 34 51) (s3.1 34 52) s3) (n_P nc C L B W t q (q + 1) y 0 (e_G C L B t y ρs.length 0) s) := by
    rw [e_Rm_tellHead_42]; exact h43 0
  refine k_if (fun _ => h42) (fun _ => ?_)
  rw [e_Rm_tellHead_33]
  exact k_if (fun _ => h42) (fun _ => h43 1)
