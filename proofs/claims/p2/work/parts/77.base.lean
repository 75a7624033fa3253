set_option maxHeartbeats 2000000 in
/-- the type is a family: HEAD FORMS, heads, and what stands behind them -/
theorem e_base (κ : Nat → Std.Format) (nc d q : Nat) (hd : 90 ≤ d) (hO : e_O κ nc d (q + 1)) (C L B W t y C1 L1 c e kc ke S1 : Nat) (ρs : List Std.Format) (τ : Std.Format) (a b : Int32) (s s2 : c_S) (hq : q < 100) (ht : t < 20000) (hv2 : v_S C1 L1 B W (t + 1) S1 (q + 1) s2) (hK : w_K s2 κ nc) (ex : v_ex C L B W s s2) (c1 : C ≤ C1) (c2 : L ≤ L1) (yC : C1 ≤ C + y) (yL : L1 ≤ L + y) (hat : f_at τ) (ha : w_B s2 κ nc C1 L1 W B a ρs) (hb : w_B s2 κ nc C1 L1 W B b ρs) (hc : w_W s2 κ nc C1 L1 W kc (.inl c) [f_l ρs τ]) (he : w_W s2 κ nc C1 L1 W ke (.inl e) [f_l ρs τ]) (hlen : ρs.length ≤ 76) (hr : e_rm C L B W t q y) :
    k_ok (c_bd (c_M (d + 1) 51 [v_r 34, v_i (nI c), v_i a] s2) fun s3 x3 => if (0 : Int32) < x3 then some (s3, x3) else b_Rm_sameObjectsAsked_98 (c_M (d + 1)) (nI e) b (s3.1 34 51) (s3.1 34 52) s3) (e_A C L B W t q y (e_G C L B t y ρs.length (f_n τ)) s) := by
  obtain ⟨r1, r2, r3, r4⟩ := id hr
  have hnc := hK.1
  have hW24 : W ≤ 24000 := by omega
  have hn0 : f_n τ = 0 := f_at_n hat
  rw [hn0]
  refine k_bd (w_heads (d + 1) (by omega) hW24 C1 L1 B (t + 1) S1 c kc ρs τ a s2 hv2.1 hK hat hc ha ⟨by omega, by omega, by omega⟩ hlen) (fun s3 x3 g3 => ?_)
  obtain ⟨wx3, C3, L3, B3, t3, S3, hu3, i1, i2, i3, i4, i5, i6, i7, ans3⟩ := g3
  have hv3 := hv2.hd wx3 hu3
  have ht3 := hu3.2.2.2.1.2
  have ex3 : v_ex C L B W s s3 := ex.tr wx3.v c1 c2 (Nat.le_refl _) (Nat.le_refl _)
  rcases ans3 with rfl | ⟨rfl, τs3, hB3, j1, j2, hH3⟩
  · rw [if_pos (by decide)]
    exact k_some ⟨ex3, C3, L3, B3, W, t3, S3, hv3, ⟨by omega, by omega, by omega, by omega, by omega, ht3, by omega, by omega, by omega, by omega⟩, Or.inr ⟨by decide, Or.inr (Or.inl rfl)⟩⟩
  · rw [if_neg (by decide), e_Rm_sameObjectsAsked_98]
    refine k_bd (w_heads (d + 1) (by omega) hW24 C3 L3 B3 t3 S3 e ke ρs τ b s3 hu3 (wx3.K hK) hat (wx3.W he (Nat.le_refl _) i1 i2) (wx3.B hb i1 i2 i3) ⟨by omega, by omega, by omega⟩ hlen) (fun s4 x4 g4 => ?_)
    obtain ⟨wx4, C4, L4, B4, t4, S4, hu4, k1, k2, k3, k4, k5, k6, k7, ans4⟩ := g4
    have hv4 := hv3.hd wx4 hu4
    have ht4 := hu4.2.2.2.1.2
    have ex4 : v_ex C L B W s s4 := ex3.tr wx4.v (by omega) (by omega) (by omega) (Nat.le_refl _)
    rcases ans4 with rfl | ⟨rfl, τs4, hB4, l1, l2, hH4⟩
    · rw [if_pos (by decide)]
      exact k_some ⟨ex4, C4, L4, B4, W, t4, S4, hv4, ⟨by omega, by omega, by omega, by omega, by omega, ht4, by omega, by omega, by omega, by omega⟩, Or.inr ⟨by decide, Or.inr (Or.inl rfl)⟩⟩
    · have no : k_ok (some (s4, (0 : Int32))) (e_A C L B W t q y (e_G C L B t y ρs.length 0) s) := k_some ⟨ex4, C4, L4, B4, W, t4, S4, hv4, ⟨by omega, by omega, by omega, by omega, by omega, ht4, by omega, by omega, by omega, by omega⟩, Or.inr ⟨by decide, Or.inl rfl⟩⟩
      rw [if_neg (by decide)]
      refine k_if (fun hh => ?_) (fun _ => no)
      rw [hh] at hH3
      have hdet := w_H_det hnc hW24 wx4.2.1 hH3 hH4
      obtain ⟨e34, -⟩ := f_l_inj hat hat hdet
      subst e34
      have hB34 := wx4.B hB3 k1 k2 k3
      rw [v_many (by omega) (d + 1) (by omega) s4 τs3 _ hB34, c_bd_some, v_many (by omega) (d + 1) (by omega) s4 τs3 _ hB4, c_bd_some, if_pos rfl]
      have fin : ∀ (n ky k : Nat) (Γ : List Std.Format) (l : Int32), f_ok (f_l τs3 τ) → o_Y s4 κ nc ky 0 Γ n (f_l τs3 τ) → w_W s4 κ nc C4 L4 W k (.inr l) Γ → k_ok (c_bd (c_M (d + 1) 58 [v_r 34, v_i (nI n), v_i l, v_i (s3.1 34 52), v_i (s4.1 34 52)] s4) fun s1 x1 => some (s1, x1)) (e_A C L B W t q y (e_G C L B t y ρs.length 0) s) := by
        intro n ky k Γ l hok hY hWl
        rw [m_Rm_sameBehind, e_Rm_sameBehind_0]
        refine k_bd (e_rows κ nc d (q + 1) (by omega) hO τ hat (by omega) τs3 C4 L4 B4 W t4 S4 0 ky k n Γ l (s3.1 34 52) (s4.1 34 52) s4 hv4 (wx4.K (wx3.K hK)) hok hY hWl hB34 hB4 (by omega) ⟨by omega, by omega, by omega, by omega⟩) (fun s5 x5 g5 => k_some ?_)
        obtain ⟨ex5, C', L', B', W', t', S', hv5, ⟨m1, m2, m3, m4, m5, m6, m7, m8, m9, m10⟩, ans⟩ := g5
        refine ⟨ex4.tr ex5 (by omega) (by omega) (by omega) (Nat.le_refl _), C', L', B', W', t', S', hv5, ⟨by omega, by omega, by omega, by omega, by omega, m6, by omega, by omega, by omega, by omega⟩, ?_⟩
        rcases ans with ⟨h1, gC, gL, gB⟩ | h2
        · refine Or.inl ⟨h1, by omega, by omega, fun h37 => ?_⟩
          have h37 : ρs.length ≤ 37 := h37
          show B' + 19 + ρs.length * (37 - ρs.length) + ρs.length * ρs.length + 19 * t ≤ B + 19 * t' + 18 * ρs.length
          have e37 : ρs.length * (37 - ρs.length) + ρs.length * ρs.length = 37 * ρs.length := by
            rw [← Nat.mul_add, Nat.mul_comm 37]
            congr 1
            omega
          omega
        · exact Or.inr h2
      rw [hh]
      rcases hH4 with ⟨cc, x1, x2, x3⟩ | ⟨w, tt, Γ, k, kk, x1, x2, x3, x4, x5⟩
      · obtain ⟨hκ, ⟨t5, k5, y1, y2⟩, -⟩ := (wx4.K (wx3.K hK)).2 cc x2
        rw [x1, if_neg (nI_pos (by omega)), e_Rm_sameObjectsAsked_181, c_rg_nI (by omega) (by decide), nI_clamp (show cc < 2 ^ 31 by omega), y1]
        rw [x3] at hκ y2
        exact fin t5 1 1 [] (-1) hκ.2 (o_F_Y (Nat.le_refl _) y2) rfl
      · have hw : w < 24000 := by omega
        rw [x1, if_pos (w_neg hw), e_Rm_sameObjectsAsked_148, w_negI hw, c_rg_nI hw (by decide), c_rg_nI hw (by decide), nI_clamp (show w < 2 ^ 31 by omega), x3]
        exact fin tt 1 k Γ _ (o_F_ok kk 37 Γ tt _ (by omega) x4).2 (o_F_Y (by omega) x4) x5
