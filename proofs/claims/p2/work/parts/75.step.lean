/-- within a question: as e_P, with one question more open -/
def e_A (C L B W t q y : Nat) (G : Nat → Nat → Nat → Nat → Prop) (s σ : c_S) (r : Int32) : Prop := v_ex C L B W s σ ∧ ∃ C' L' B' W' t' S', v_S C' L' B' W' t' S' (q + 1) σ ∧ e_cr C L B W t q y C' L' B' W' t' ∧ ((r = 1 ∧ G C' L' B' t') ∨ (¬ r = 1 ∧ (r = 0 ∨ r = 9 ∨ r = 10)))
theorem e_A.P {C L B W t q y : Nat} {G : Nat → Nat → Nat → Nat → Prop} {s σ : c_S} {r : Int32} (hq : q ≤ 100) (g : e_A C L B W t q y G s σ r) : e_P C L B W t q y G s (c_put σ 34 53 (σ.1 34 53 - 1)) r := by
  obtain ⟨g1, C', L', B', W', t', S', ⟨⟨u1, u2, u3, u4, u5⟩, v1, v2, v3⟩, g3, g4⟩ := g
  have f : z_F [] [53] [] σ (c_put σ 34 53 (σ.1 34 53 - 1)) := z_F.puf z_F.rf rfl
  refine ⟨g1.tr (v_fld (z_F.mono f rfl) : v_ex C L B W σ _) (Nat.le_refl _) (Nat.le_refl _) (Nat.le_refl _) (Nat.le_refl _), C', L', B', W', t', S', ⟨⟨by rw [f.2.1 30 rfl]; exact u1, by rw [f.2.1 33 rfl]; exact u2, by rw [f.2.1 36 rfl]; exact u3, ⟨by rw [f.2.1 42 rfl]; exact u4.1, u4.2⟩, ⟨by rw [f.2.1 41 rfl]; exact u5.1, u5.2⟩⟩, by rw [f.2.1 40 rfl]; exact v1, by rw [c_put_same, v2]; exact nI_pred q, hq⟩, g3, g4⟩
def e_G (C L B t y i n : Nat) : Nat → Nat → Nat → Nat → Prop := fun C' L' B' t' => C' + 2 + 4 * t ≤ C + 4 * t' + y ∧ L' + 1 + 3 * t ≤ L + 3 * t' + y ∧ (i + n ≤ 37 → B' + 19 + (i + n) * (37 - (i + n)) + i * i + 19 * t ≤ B + 19 * t' + 18 * i)
set_option maxHeartbeats 1000000 in
/-- the type is a { }: both with a new VAR behind them -/
theorem e_pi (κ : Nat → Std.Format) (nc d q : Nat) (hd : 90 ≤ d) (hO : e_O κ nc d (q + 1)) (C L B W t S y C1 L1 y' c e kc ke fa fb k1 k2 k3 S1 : Nat) (Γ1 ρs : List Std.Format) (s' ρ : Std.Format) (la a b : Int32) (s s2 : c_S) (hq : q < 100) (ht : t < 20000) (hv2 : v_S C1 L1 B W (t + 1) S1 (q + 1) s2) (hK : w_K s2 κ nc) (ex : v_ex C L B W s s2) (c1 : C ≤ C1) (c2 : L ≤ L1) (yC : C1 + y' ≤ C + y) (yL : L1 + y' ≤ L + y) (hok : f_ok (f_a s' ρ)) (hfin : f_fin (f_a s' ρ)) (hF : o_F s2 κ nc k1 37 Γ1 fa s') (hY : o_Y s2 κ nc k2 y' (s' :: Γ1) fb ρ) (hW : w_W s2 κ nc C1 L1 W k3 (.inr la) Γ1) (ha : w_B s2 κ nc C1 L1 W B a ρs) (hb : w_B s2 κ nc C1 L1 W B b ρs) (hc : w_W s2 κ nc C1 L1 W kc (.inl c) [f_l ρs (f_a s' ρ)]) (he : w_W s2 κ nc C1 L1 W ke (.inl e) [f_l ρs (f_a s' ρ)]) (hlen : ρs.length + f_n (f_a s' ρ) ≤ 76) (hy : y' ≤ 16000) (hr : e_rm C L B W t q y) :
    k_ok (c_bd (c_M d 44 [v_r 34, v_i (nI fa), v_i la, v_i 0] s2) fun s3 x3 => b_Rm_sameObjectsAsked_38 (c_M d) (nI c) a (nI e) b (nI fb) la x3 s3) (e_A C L B W t q y (e_G C L B t y ρs.length (f_n (f_a s' ρ))) s) := by
  obtain ⟨r1, r2, r3, r4⟩ := id hr
  have hn1 : f_n (f_a s' ρ) = f_n ρ + 1 := rfl
  rw [hn1] at hlen ⊢
  obtain ⟨σ3, es3, hv3, ex3, hw3⟩ := v_new d (by omega) fa k1 k3 la 0 Γ1 s' s2 hv2 (by omega) (by omega) hF hW
  rw [es3, c_bd_some, e_Rm_sameObjectsAsked_38]
  obtain ⟨σ4, ra, es4, hv4, ex4, hb4⟩ := v_append (κ := κ) (nc := nc) C1 (k3 + 1) s' ρs d B a σ3 (by omega) hv3 (by omega) (ex3.B ha (by omega) (Nat.le_refl _) (Nat.le_refl _) (by omega)) hw3
  rw [es4, c_bd_some]
  obtain ⟨σ5, rb, es5, hv5, ex5, hb5⟩ := v_append (κ := κ) (nc := nc) C1 (k3 + 1) s' ρs d (B + ρs.length + 1) b σ4 (by omega) hv4 (by omega) (ex4.B (ex3.B hb (by omega) (Nat.le_refl _) (Nat.le_refl _) (by omega)) (Nat.le_refl _) (Nat.le_refl _) (by omega) (Nat.le_refl _)) (ex4.W hw3 (Nat.le_refl _) (Nat.le_refl _) (Nat.le_refl _) (Nat.le_refl _))
  rw [es5, c_bd_some]
  obtain ⟨⟨w1, w2, w3, w4, w5⟩, w6, w7, w8⟩ := id hv5
  obtain ⟨σ6, es6, f6, l1, l2, l3, l4⟩ := w_list d (by omega) (nI C1) la σ5 L1 (by omega) w2
  rw [es6, c_bd_some]
  have ex6 : v_ex (C1 + 1) L1 (B + ρs.length + 1 + ρs.length + 1) (W + 1) σ5 σ6 := ⟨z_F.mono f6 rfl, ⟨o_ag.of f6 rfl, fun h _ => by rw [f6.1 53 rfl (by decide), f6.1 54 rfl (by decide)]; exact ⟨rfl, rfl⟩, l4, fun h _ => by rw [f6.1 59 rfl (by decide), f6.1 60 rfl (by decide)]; exact ⟨rfl, rfl⟩⟩, fun i _ => by rw [f6.1 57 rfl (by decide), f6.1 58 rfl (by decide)]; exact ⟨rfl, rfl⟩⟩
  have ex36 : v_ex (C1 + 1) L1 B (W + 1) σ3 σ6 := (ex4.tr ex5 (Nat.le_refl _) (Nat.le_refl _) (by omega) (Nat.le_refl _)).tr ex6 (Nat.le_refl _) (Nat.le_refl _) (by omega) (Nat.le_refl _)
  have ex26 : v_ex C1 L1 B W s2 σ6 := ex3.tr ex36 (by omega) (Nat.le_refl _) (Nat.le_refl _) (by omega)
  have ex46 : v_ex (C1 + 1) L1 (B + ρs.length + 1) (W + 1) σ4 σ6 := ex5.tr ex6 (Nat.le_refl _) (Nat.le_refl _) (by omega) (Nat.le_refl _)
  have hv6 : v_S (C1 + 1) (L1 + 1) (B + ρs.length + 1 + ρs.length + 1) (W + 1) (t + 1) S1 (q + 1) σ6 := ⟨⟨by rw [f6.2.1 30 rfl]; exact w1, l1, by rw [f6.2.1 36 rfl]; exact w3, ⟨by rw [f6.2.1 42 rfl]; exact w4.1, w4.2⟩, ⟨by rw [f6.2.1 41 rfl]; exact w5.1, w5.2⟩⟩, by rw [f6.2.1 40 rfl]; exact w6, by rw [f6.2.1 53 rfl]; exact w7, w8⟩
  obtain ⟨hs37, hoks, hokρ⟩ := id (show (f_n s' ≤ 37 ∧ f_fin s') ∧ f_ok s' ∧ f_ok ρ from hok)
  have hl6 : w_W σ6 κ nc (C1 + 1) (L1 + 1) (W + 1) (k3 + 2) (.inr (nI L1)) (s' :: Γ1) := ⟨L1, C1, rfl, by omega, l2, ⟨hs37, hoks⟩, ex36.W hw3 (Nat.le_refl _) (Nat.le_refl _) (by omega) (Nat.le_refl _), by rw [l3]; exact ex26.W hW (by omega) (by omega) (by omega) (by omega)⟩
  have hlen2 : (ρs ++ [s']).length = ρs.length + 1 := by rw [List.length_append]; rfl
  refine k_bd (hO (C1 + 1) (L1 + 1) (B + ρs.length + 1 + ρs.length + 1) (W + 1) (t + 1) S1 y' k2 (k3 + 2) fb c e kc ke (s' :: Γ1) (ρs ++ [s']) ρ (nI L1) ra rb σ6 hv6 (ex26.K hK) hokρ hfin (ex26.Y hY) hl6 (ex46.B hb4 (Nat.le_refl _) (by omega) (by omega) (Nat.le_refl _)) (ex6.B hb5 (Nat.le_refl _) (by omega) (Nat.le_refl _) (Nat.le_refl _)) (by rw [f_l_app]; exact ex26.W hc (Nat.le_refl _) (by omega) (by omega) (by omega)) (by rw [f_l_app]; exact ex26.W he (Nat.le_refl _) (by omega) (by omega) (by omega)) (by rw [hlen2]; omega) hy ⟨by omega, by omega, by omega, by omega⟩) (fun s7 x7 g7 => k_some ?_)
  obtain ⟨ex7, C', L', B', W', t', S', hv7, ⟨j1, j2, j3, j4, j5, j6, j7, j8, j9, j10⟩, ans⟩ := g7
  refine ⟨(ex.tr ex26 c1 c2 (Nat.le_refl _) (Nat.le_refl _)).tr ex7 (by omega) (by omega) (by omega) (by omega), C', L', B', W', t', S', hv7, ⟨by omega, by omega, by omega, by omega, by omega, j6, by omega, by omega, by omega, by omega⟩, ?_⟩
  rcases ans with ⟨h1, gC, gL, gB⟩ | h2
  · refine Or.inl ⟨h1, by omega, by omega, fun h37 => ?_⟩
    rw [hlen2] at gB
    have gB := gB (by omega)
    have en : ρs.length + 1 + f_n ρ = ρs.length + (f_n ρ + 1) := by omega
    have ei : (ρs.length + 1) * (ρs.length + 1) = ρs.length * ρs.length + 2 * ρs.length + 1 := by rw [Nat.add_mul, Nat.mul_add]; omega
    rw [en, ei] at gB
    omega
  · exact Or.inr h2
