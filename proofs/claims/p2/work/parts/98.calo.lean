theorem rr_W.cl {κ : Nat → Std.Format} {nc m : Nat} {s t : c_S} (h : rr_W κ nc m s) (hc : ∀ a, 34 ≤ a → t.1 a = s.1 a) (hl : t.2 = s.2) : rr_W κ nc m t := by
  obtain ⟨h1, h2, h3, h4, h5, h6⟩ := h
  refine ⟨h1.of (fun i _ _ => by rw [hc 40 (by omega), hc 41 (by omega), hc 42 (by omega)]; exact ⟨rfl, rfl, rfl⟩) (hc 49 (by omega)) (hc 50 (by omega)) (hc 51 (by omega)) (fun c _ => by rw [hc 52 (by omega)]) (by rw [hl]) (by rw [hl]), by rw [hc 34 (by omega)]; exact h2, ⟨h3.1.of (hc 37 (by omega)), h3.2.1.of (by rw [hl]) (by rw [hl]), fun i => ?_⟩, h4.of (hc 35 (by omega)), by rw [hc 34 (by omega)]; exact h5, by rw [hc 34 (by omega)]; exact h6⟩
  rw [hc 43 (by omega), hc 44 (by omega), hc 45 (by omega), hc 46 (by omega)]
  exact h3.2.2 i
theorem rr_I.cl {j : Nat} {s t : c_S} (h : rr_I j s) (hc : ∀ a, 34 ≤ a → t.1 a = s.1 a) (hl : t.2 = s.2) : rr_I j t := by
  obtain ⟨T, κ, nc, m, h1, h2, h3, h4, h5⟩ := h
  exact ⟨T, κ, nc, m, h1, by rw [hc 34 (by omega)]; exact h2, h3, by rw [hc 34 (by omega)]; exact h4, h5.cl hc hl⟩
theorem rr_I.up {j : Nat} {s : c_S} (h : rr_I j s) : rr_I (j + 1) s := by
  obtain ⟨T, κ, nc, m, h1, h2, h3, h4, h5⟩ := h
  exact ⟨T, κ, nc, m, h1, h2, by omega, h4, h5⟩
theorem rr_I.put0 {j : Nat} {s : c_S} (h : rr_I j s) : rr_I j (c_put s 34 0 0) := by
  obtain ⟨T, κ, nc, m, h1, h2, h3, h4, h5⟩ := h
  exact ⟨T, κ, nc, m, h1, by rw [c_put_get, if_neg (by decide)]; exact h2, h3, by rw [c_put_get, if_neg (by decide)]; exact h4, rr_put0 h5⟩
theorem nI_ltn {a b : Nat} (h : nI a < nI b) (ha : a < 2 ^ 31) : a < b := by
  by_cases hb : b ≤ a
  · exact absurd h (nI_nlt hb ha)
  · omega
theorem rr_named (d : Nat) (hd : 4 ≤ d) (j : Nat) (hj : j ≤ 512) (s : c_S) (h : rr_I j s) : k_ok (c_M d 96 [v_r 34] s) (fun σ _ => rr_Q j s σ) := by
  obtain ⟨d, rfl⟩ : ∃ e, d = e + 1 := ⟨d - 1, by omega⟩
  obtain ⟨T0, κ, nc, m, hT, e2, hm, e16, hW⟩ := h
  have f0 : z_F [] [0] [] s (c_put s 34 0 0) := z_F.puf z_F.rf rfl
  have W0 := rr_put0 hW
  obtain ⟨-, -, G1, t1, ⟨S, hS, eS⟩, -⟩ := id W0
  rw [m_Rm_named, e_Rm_named_0]
  refine k_bd (rm_cutAll d (by omega) _ T0 hT (by rw [f0.2.1 2 rfl]; exact e2) G1.1 G1.2.1 t1) (fun σ r g => ?_)
  obtain ⟨f2, z2, z3, z8, z9, ⟨N, hN, z36⟩, zp, zf⟩ := g
  have G2 : z_G σ := ⟨zp, zf, fun i => by rw [f2.1 43 rfl (by decide), f2.1 44 rfl (by decide), f2.1 45 rfl (by decide), f2.1 46 rfl (by decide)]; exact G1.2.2 i⟩
  have W2 : rr_W κ nc m σ := W0.mv (z_F.mono f2 rfl) (f2.o rfl) G2 ⟨S, hS, by rw [f2.2.1 41 rfl]; exact eS⟩
  have e16' : σ.1 34 16 = nI m := by rw [f2.2.1 16 rfl, f0.2.1 16 rfl]; exact e16
  have L : rr_L N (m + 2 * T0) m 0 σ := ⟨G2, ⟨by omega, by omega, z36⟩, z9, e16', z8, by omega, by omega⟩
  have q : rr_Q j s σ := rr_Q.mk (fun b hb => (rr_C.of f2 rfl b hb).trans (rr_C.of f0 rfl b hb)) z2 (Nat.le_refl m) (by omega) e16' W2
  refine k_bd (rr_isName d (by omega) σ L) (fun s1 x1 g1 => ?_)
  obtain ⟨e1, -, -⟩ := g1
  have e1 := e1.symm
  subst e1
  refine k_if (fun _ => k_some q) (fun _ => k_rg (by decide) (k_if (fun _ => ?_) (fun _ => k_some q)))
  obtain ⟨r3, er, -⟩ := h_const d (by omega) 0 nc (by omega) W2.1.1 σ W2.2.1
  have er' : c_M d 40 [v_r 34, v_i 0] σ = some (σ, r3) := er
  rw [er', c_bd_some]
  exact k_some q
theorem rr_const38 (d : Nat) (c : Nat) (hc : c < 101) (i2 : Int32) (s : c_S) {κ : Nat → Std.Format} {n1 : Nat} : ∀ (k h : Nat) (Γ : List Std.Format) (n : Nat) (τ : Std.Format) (i3 : Int32), o_F s κ n1 k h Γ n τ → ∃ r, b_Rm_constant_38 (c_M d) (nI c) i2 i3 (nI n) s = some (s, r)
  | 0, _, _, _, _, _, hx => hx.elim
  | k + 1, h, Γ, n, τ, i3, hx => by
    obtain ⟨hn, hx⟩ := hx
    have rest : ¬ s.1 40 n = 5 → ∃ r, b_Rm_constant_38 (c_M d) (nI c) i2 i3 (nI n) s = some (s, r) := fun h5 => by
      rw [e_Rm_constant_38, c_rg_nI (by omega) (by decide), nI_clamp (show n < 2 ^ 31 by omega), if_neg h5, c_rg_nI hc (by decide), c_rg_nI hc (by decide)]
      split
      · exact ⟨_, rfl⟩
      · split
        · split
          · exact ⟨_, rfl⟩
          · exact ⟨_, rfl⟩
        · exact ⟨_, rfl⟩
    rcases hx with ⟨e, a, b, h', s', r, q1, q2, q3, q4, q5, q6, q7, q8⟩ | ⟨e, -⟩ | ⟨e, -⟩
    · rw [e_Rm_constant_38, c_rg_nI (by omega) (by decide), nI_clamp (show n < 2 ^ 31 by omega), if_pos e, c_rg_nI (by omega) (by decide), q3]
      exact rr_const38 d c hc i2 s k h' (s' :: Γ) b r (i3 + 1) q8
    · exact rest (by rcases e with e | e <;> (rw [e]; decide))
    · exact rest (by rw [e]; decide)
theorem rr_constant (d : Nat) (hd : 1 ≤ d) (j : Nat) (i1 i2 : Int32) (s : c_S) (h : rr_I j s) : k_ok (c_M d 97 [v_r 34, v_i i1, v_i i2] s) (fun σ _ => σ = c_put s 34 0 0) := by
  obtain ⟨d, rfl⟩ : ∃ e, d = e + 1 := ⟨d - 1, by omega⟩
  obtain ⟨T0, κ, nc, m, hT, e2, hm, e16, hW⟩ := h
  have hnc := hW.1.1
  rw [m_Rm_constant, e_Rm_constant_0, hW.2.1]
  refine k_if (fun _ => k_some rfl) (fun h0 => k_if (fun h1 => k_if (fun _ => k_some rfl) (fun _ => k_if (fun _ => k_some rfl) (fun _ => ?_))) (fun _ => k_some rfl))
  obtain ⟨q, rfl, hq⟩ := rr_nn h0
  have hlt := nI_ltn h1 hq
  obtain ⟨-, ⟨t, k, e50, hF⟩, -⟩ := (rr_put0 hW).1.w.2 q hlt
  rw [c_put_off (by decide)] at e50
  rw [c_rg_nI (by omega) (by decide), nI_clamp (show q < 2 ^ 31 by omega), e50]
  obtain ⟨r, er⟩ := rr_const38 d q (by omega) i2 (c_put s 34 0 0) k 38 [] t _ 0 hF
  rw [er]
  exact k_some rfl
theorem rr_size (d : Nat) (hd : 1 ≤ d) (s : c_S) : k_ok (c_M d 98 [v_r 34] s) (fun σ _ => σ = c_put s 34 0 0) := by
  obtain ⟨d, rfl⟩ : ∃ e, d = e + 1 := ⟨d - 1, by omega⟩
  rw [m_Rm_size, e_Rm_size_0]
  exact k_some rfl
theorem rr_out (d : Nat) (hd : 1 ≤ d) (j : Nat) (i1 : Int32) (s : c_S) (h : rr_I j s) : k_ok (c_M d 99 [v_r 34, v_i i1] s) (fun σ _ => σ = c_put s 34 0 0) := by
  obtain ⟨d, rfl⟩ : ∃ e, d = e + 1 := ⟨d - 1, by omega⟩
  obtain ⟨T0, κ, nc, m, hT, e2, hm, e16, hW⟩ := h
  obtain ⟨-, -, -, -, -, o, ho, eo⟩ := hW
  rw [m_Rm_out, e_Rm_out_0, eo]
  refine k_if (fun _ => k_some rfl) (fun h0 => k_if (fun h1 => ?_) (fun _ => k_some rfl))
  obtain ⟨q, rfl, hq⟩ := rr_nn h0
  have hlt := nI_ltn h1 hq
  rw [c_rg_nI (by omega) (by decide)]
  exact k_some rfl
theorem rr_count (d : Nat) (hd : 1 ≤ d) (i1 : Int32) (s : c_S) : k_ok (c_M d 101 [v_r 34, v_i i1] s) (fun σ _ => σ = c_put s 34 0 0) := by
  obtain ⟨d, rfl⟩ : ∃ e, d = e + 1 := ⟨d - 1, by omega⟩
  rw [m_Rm_count, e_Rm_count_0]
  exact k_if (fun _ => k_some rfl) (fun _ => k_if (fun _ => k_some rfl) (fun _ => k_if (fun _ => k_some rfl) (fun _ => k_if (fun _ => k_some rfl) (fun _ => k_some rfl))))
theorem rr_K.cut {s : c_S} {κ : Nat → Std.Format} {nc m nc' : Nat} (h : rr_K s κ nc m) (hn : nc' ≤ nc) : ∃ m', m' ≤ m ∧ (nc' < nc → s.1 52 nc' = nI m') ∧ (nc' = nc → m' = m) ∧ rr_K s κ nc' m' := by
  obtain ⟨h1, h0, ⟨A, hA, h2⟩, h3, h4⟩ := h
  have mono := rr_A (fun c hc => (h2 c hc).1) (nc - nc') nc' (by omega)
  rw [show nc' + (nc - nc') = nc by omega, hA] at mono
  exact ⟨A nc', mono, fun hlt => (h2 nc' hlt).2.1, fun e => by rw [e]; exact hA, by omega, by omega, ⟨A, rfl, fun c hc => h2 c (by omega)⟩, fun c hc => h3 c (by omega), fun c hc => h4 c (by omega)⟩
theorem rr_forget (d : Nat) (hd : 1 ≤ d) (j : Nat) (i1 : Int32) (s : c_S) (h : rr_I j s) : k_ok (c_M d 100 [v_r 34, v_i i1] s) (fun σ _ => z_F [] [0, 16, 21] [] s σ ∧ rr_I j σ) := by
  obtain ⟨d, rfl⟩ : ∃ e, d = e + 1 := ⟨d - 1, by omega⟩
  have hp0 := h.put0
  obtain ⟨T0, κ, nc, m, hT, e2, hm, e16, hW⟩ := h
  have hnc := hW.1.1
  have f0 : z_F [] [0, 16, 21] [] s (c_put s 34 0 0) := z_F.puf z_F.rf rfl
  rw [m_Rm_forget, e_Rm_forget_0, hW.2.1]
  refine k_if (fun _ => k_some ⟨f0, hp0⟩) (fun h0 => k_if (fun _ => k_some ⟨f0, hp0⟩) (fun h1 => ?_))
  obtain ⟨q, rfl, hq⟩ := rr_nn h0
  have hle : q ≤ nc := by
    by_cases hl : nc < q
    · exact absurd (nI_lt hl hq) h1
    · omega
  rw [nI_sub hle (by omega)]
  obtain ⟨m', hm', k1, k2, hK'⟩ := hW.1.cut (nc' := nc - q) (by omega)
  have fin : k_ok (some ((c_put (c_put (c_put s 34 0 0) 34 21 (nI (nc - q))) 34 16 (nI m')), nI (nc - q))) (fun σ _ => z_F [] [0, 16, 21] [] s σ ∧ rr_I j σ) := by
    have f : z_F [] [0, 16, 21] [] s (c_put (c_put (c_put s 34 0 0) 34 21 (nI (nc - q))) 34 16 (nI m')) := z_F.puf (z_F.puf (z_F.puf z_F.rf rfl) rfl) rfl
    refine k_some ⟨f, T0, κ, nc - q, m', hT, by rw [f.2.1 2 rfl]; exact e2, by omega, c_put_same, hK'.of (f.o rfl) (f.1 49 rfl (by decide)) (f.1 50 rfl (by decide)) (f.1 51 rfl (by decide)) (fun c _ => by rw [f.1 52 rfl (by decide)]) (f.2.2 47 rfl) (f.2.2 48 rfl), by rw [c_put_get, if_neg (by decide), c_put_same], hW.2.2.1.of f rfl, hW.2.2.2.1.of (f.1 35 rfl (by decide)), by rw [f.2.1 41 rfl]; exact hW.2.2.2.2.1, by rw [f.2.1 70 rfl]; exact hW.2.2.2.2.2⟩
  refine k_if (fun hpos => ?_) (fun hz => ?_)
  · have hq0 : 0 < q := nI_ltn (a := 0) hpos (by omega)
    rw [c_rg_nI (by omega) (by decide), nI_clamp (show nc - q < 2 ^ 31 by omega), k1 (by omega)]
    exact fin
  · have hq0 : q = 0 := by
      by_cases hl : 0 < q
      · exact absurd (nI_lt (a := 0) hl hq) hz
      · omega
    rw [e16, ← k2 (by omega)]
    exact fin
/-! feed of the reference: the TAPE's signs -/
theorem by_1_up (n : Nat) : by_1 n ≤ n + 1 := by unfold by_1; split <;> omega
theorem by_n_up (n : Nat) (c : Int32) : by_n n c ≤ n + 1 := by
  have := by_1_up n
  unfold by_n
  split
  · exact this
  · split
    · omega
    · split
      · omega
      · exact this
theorem by_8s_up (n : Nat) (x : Int64) : by_8s n x ≤ n + 8 := by
  unfold by_8s
  have h1 := by_n_up n (by_c x 56)
  generalize by_n n (by_c x 56) = n1 at *
  have h2 := by_n_up n1 (by_c x 48)
  generalize by_n n1 (by_c x 48) = n2 at *
  have h3 := by_n_up n2 (by_c x 40)
  generalize by_n n2 (by_c x 40) = n3 at *
  have h4 := by_n_up n3 (by_c x 32)
  generalize by_n n3 (by_c x 32) = n4 at *
  have h5 := by_n_up n4 (by_c x 24)
  generalize by_n n4 (by_c x 24) = n5 at *
  have h6 := by_n_up n5 (by_c x 16)
  generalize by_n n5 (by_c x 16) = n6 at *
  have h7 := by_n_up n6 (by_c x 8)
  generalize by_n n6 (by_c x 8) = n7 at *
  have h8 := by_n_up n7 (by_c x 0)
  omega
theorem z_tp.put {s : c_S} {t : Nat} {c : Int32} (h : z_tp s) (hc : 0 ≤ c.toInt ∧ c.toInt ≤ 255) : z_tp (c_put s 35 t c) := fun i => by
  rw [c_put_get]
  split
  · exact hc
  · exact h i
theorem rt_38 (C : c_C) (x : Int64) (k c : Int32) (s : c_S) {n : Nat} (hn : n ≤ 4000) (hs : s.1 34 2 = nI n) (hc : 0 ≤ c.toInt ∧ c.toInt ≤ 255) (ht : z_tp s) : ∃ s', b_Rm_lay_38 C x k c s = b_Rm_lay_3 C x (k + (-8)) s' ∧ s'.1 34 2 = nI (by_1 n) ∧ z_tp s' := by
  rw [e_Rm_lay_38, hs]
  unfold by_1
  by_cases h : n < 4000
  · rw [if_pos (show nI n < (4000 : Int32) from nI_lt (b := 4000) h (by decide)), c_rg_nI h (by decide), if_pos h]
    exact ⟨_, rfl, by rw [c_put_same]; exact nI_1 n, fun i => by rw [c_put_off (by decide)]; exact (ht.put hc) i⟩
  · rw [if_neg (show ¬ nI n < (4000 : Int32) from nI_nlt (b := 4000) (by omega) (by omega)), if_neg h]
    exact ⟨s, rfl, hs, ht⟩
theorem rt_step (C : c_C) (x : Int64) (k : Int32) (s : c_S) {n : Nat} (hk : ¬ k < 0) (hn : n ≤ 4000) (hs : s.1 34 2 = nI n) (ht : z_tp s) : ∃ s', b_Rm_lay_3 C x k s = b_Rm_lay_3 C x (k + (-8)) s' ∧ s'.1 34 2 = nI (by_n n (by_c x k)) ∧ z_tp s' := by
  rw [e_Rm_lay_3, if_neg hk, show (x >>> ((k : Int32).toInt64 &&& 63)).toInt32 &&& 255 = by_c x k from rfl]
  generalize by_c x k = c
  have h0 : ∃ s', b_Rm_lay_3 C x (k + (-8)) s = b_Rm_lay_3 C x (k + (-8)) s' ∧ s'.1 34 2 = nI n ∧ z_tp s' := ⟨s, rfl, hs, ht⟩
  unfold by_n
  by_cases h10 : c = 10
  · rw [if_pos h10, if_pos h10]
    exact rt_38 C x k c s hn hs (by rw [h10]; decide) ht
  · rw [if_neg h10, if_neg h10]
    by_cases h32 : c < 32
    · rw [if_pos h32, if_pos h32]; exact h0
    · rw [if_neg h32, if_neg h32]
      by_cases h126 : 126 < c
      · rw [if_pos h126, if_pos h126]; exact h0
      · rw [if_neg h126, if_neg h126]
        refine rt_38 C x k c s hn hs ?_ ht
        rw [Int32.lt_iff_toInt_lt, show (32 : Int32).toInt = 32 from by decide] at h32
        rw [Int32.lt_iff_toInt_lt, show (126 : Int32).toInt = 126 from by decide] at h126
        omega
theorem rt_lay (d : Nat) (x : Int64) (s : c_S) {n : Nat} (hn : n ≤ 4000) (hs : s.1 34 2 = nI n) (ht : z_tp s) : ∃ s', c_M (d + 1) 19 [v_r 34, v_l x] s = some (s', 0) ∧ s'.1 34 2 = nI (by_8s n x) ∧ z_tp s' := by
  rw [m_Rm_lay, e_Rm_lay_0]
  obtain ⟨s1, e1, h1, f1⟩ := rt_step (c_M d) x 56 s (by decide) hn hs ht
  obtain ⟨s2, e2, h2, f2⟩ := rt_step (c_M d) x 48 s1 (by decide) (by_n_le _ hn) h1 f1
  obtain ⟨s3, e3, h3, f3⟩ := rt_step (c_M d) x 40 s2 (by decide) (by_n_le _ (by_n_le _ hn)) h2 f2
  obtain ⟨s4, e4, h4, f4⟩ := rt_step (c_M d) x 32 s3 (by decide) (by_n_le _ (by_n_le _ (by_n_le _ hn))) h3 f3
  obtain ⟨s5, e5, h5, f5⟩ := rt_step (c_M d) x 24 s4 (by decide) (by_n_le _ (by_n_le _ (by_n_le _ (by_n_le _ hn)))) h4 f4
  obtain ⟨s6, e6, h6, f6⟩ := rt_step (c_M d) x 16 s5 (by decide) (by_n_le _ (by_n_le _ (by_n_le _ (by_n_le _ (by_n_le _ hn))))) h5 f5
  obtain ⟨s7, e7, h7, f7⟩ := rt_step (c_M d) x 8 s6 (by decide) (by_n_le _ (by_n_le _ (by_n_le _ (by_n_le _ (by_n_le _ (by_n_le _ hn)))))) h6 f6
  obtain ⟨s8, e8, h8, f8⟩ := rt_step (c_M d) x 0 s7 (by decide) (by_n_le _ (by_n_le _ (by_n_le _ (by_n_le _ (by_n_le _ (by_n_le _ (by_n_le _ hn))))))) h7 f7
  refine ⟨s8, ?_, h8, f8⟩
  rw [e1, show (56 : Int32) + (-8) = 48 from by decide, e2, show (48 : Int32) + (-8) = 40 from by decide, e3, show (40 : Int32) + (-8) = 32 from by decide, e4, show (32 : Int32) + (-8) = 24 from by decide, e5, show (24 : Int32) + (-8) = 16 from by decide, e6, show (16 : Int32) + (-8) = 8 from by decide, e7, show (8 : Int32) + (-8) = 0 from by decide, e8, e_Rm_lay_3, if_pos (by decide)]
theorem rt_feed (d : Nat) (x y z : Int64) (s : c_S) {n : Nat} (hn : n ≤ 4000) (hs : s.1 34 2 = nI n) (ht : z_tp s) : ∃ s' r, c_M (d + 2) 18 [v_r 34, v_l x, v_l y, v_l z] s = some (s', r) ∧ z_tp s' := by
  obtain ⟨s1, e1, h1, f1⟩ := rt_lay d x (c_put s 34 0 0) hn (by rw [c_put_get, if_neg (by decide)]; exact hs) (fun i => by rw [c_put_off (by decide)]; exact ht i)
  obtain ⟨s2, e2, h2, f2⟩ := rt_lay d y s1 (by_8s_le x hn) h1 f1
  obtain ⟨s3, e3, h3, f3⟩ := rt_lay d z s2 (by_8s_le y (by_8s_le x hn)) h2 f2
  exact ⟨s3, s3.1 34 2, by rw [m_Rm_feed, e_Rm_feed_0, e1, c_bd_some, e2, c_bd_some, e3, c_bd_some], f3⟩
theorem rr_feed (d : Nat) (x y z : Int64) (j : Nat) (s : c_S) {n : Nat} (h : rr_I j s) (hs : s.1 34 2 = nI n) (hn : n ≤ 4000) : ∃ σ, c_M (d + 2) 18 [v_r 34, v_l x, v_l y, v_l z] s = some (σ, nI (by_8s (by_8s (by_8s n x) y) z)) ∧ σ.1 34 2 = nI (by_8s (by_8s (by_8s n x) y) z) ∧ (∀ b, b < 34 → σ.1 b = s.1 b) ∧ rr_I (j + 1) σ := by
  obtain ⟨T, κ, nc, m, h1, h2, h3, h4, hW⟩ := h
  have eT : T = n := (nI_eq (by omega) (by omega)).mp (h2.symm.trans hs)
  subst eT
  obtain ⟨σ, e1, e2, f1, f2, f3⟩ := rl_feed d x y z s h1 h2
  obtain ⟨σ', r', e1', ht⟩ := rt_feed d x y z s h1 h2 hW.2.2.2.1
  have eσ : σ' = σ := by rw [e1] at e1'; cases e1'; rfl
  subst eσ
  have W0 := rr_put0 hW
  obtain ⟨w1, w2, w3, w4, w5, w6⟩ := W0
  have cc : ∀ a, a ≠ 34 → a ≠ 35 → σ'.1 a = (c_put s 34 0 0).1 a := f1
  refine ⟨σ', e1, e2, fun b hb => by rw [cc b (by omega) (by omega), c_put_ne (by omega)], _, κ, nc, m, by_8s_le z (by_8s_le y (by_8s_le x h1)), e2, ?_, ?_, w1.of (fun i _ _ => by rw [cc 40 (by decide) (by decide), cc 41 (by decide) (by decide), cc 42 (by decide) (by decide)]; exact ⟨rfl, rfl, rfl⟩) (cc 49 (by decide) (by decide)) (cc 50 (by decide) (by decide)) (cc 51 (by decide) (by decide)) (fun c _ => by rw [cc 52 (by decide) (by decide)]) (by rw [f3]) (by rw [f3]), by rw [f2 21 (by decide)]; exact w2, ⟨w3.1.of (cc 37 (by decide) (by decide)), w3.2.1.of (by rw [f3]) (by rw [f3]), fun i => ?_⟩, ht, by rw [f2 41 (by decide)]; exact w5, by rw [f2 70 (by decide)]; exact w6⟩
  · have u1 := by_8s_up T x
    have u2 := by_8s_up (by_8s T x) y
    have u3 := by_8s_up (by_8s (by_8s T x) y) z
    omega
  · rw [f2 16 (by decide), c_put_get, if_neg (by decide)]; exact h4
  · rw [cc 43 (by decide) (by decide), cc 44 (by decide) (by decide), cc 45 (by decide) (by decide), cc 46 (by decide) (by decide)]
    exact w3.2.2 i
/-! both together -/
def rr_Inv (j : Nat) (s : c_S) : Prop := rr_I j s ∧ y_T s ∧ s.1 1 1 = s.1 34 2
theorem rr_yT {s t : c_S} (h : y_T s) (e : t.1 3 = s.1 3) : y_T t := by
  obtain ⟨T, h1, h2, h3⟩ := h
  exact ⟨T, h1, h2, by rw [e]; exact h3⟩
/-- a call that takes the TAPE -/
theorem rr_run {j : Nat} {σ : c_S} {tx tm : Nat} (h : rr_Inv j σ) (hx : ∀ s, y_T s → k_ok (c_M 1500 tx [v_r 0] s) (fun t _ => y_P0 s t)) (hm : ∀ s, rr_I j s → k_ok (c_M 1500 tm [v_r 34] s) (fun t _ => rr_Q j s t)) : p_run rr_Inv j σ tx tm [] := by
  obtain ⟨σ1, r1, e1, y1, y2, y3⟩ := hx σ h.2.1
  obtain ⟨c1, l1⟩ := y1.ref
  obtain ⟨σ2, r2, e2, q1, q2, q3⟩ := hm σ1 (h.1.cl c1 l1)
  exact ⟨σ1, σ2, r1, r2, e1, e2, q3, rr_yT y2 (q1 3 (by omega)), by rw [q1 1 (by omega), y3, q2]⟩
/-- a call that only looks -/
theorem rr_look {j : Nat} {σ : c_S} {tx tm : Nat} {as : List c_V} (h : rr_Inv j σ) (hx : k_ok (c_M 1500 tx (v_r 0 :: as) σ) (fun t r => t = σ ∧ k_b 1 r)) (hm : k_ok (c_M 1500 tm (v_r 34 :: as) σ) (fun t _ => t = c_put σ 34 0 0)) : p_run rr_Inv j σ tx tm as := by
  obtain ⟨σ1, r1, e1, rfl, -⟩ := hx
  obtain ⟨σ2, r2, e2, rfl⟩ := hm
  exact ⟨_, _, r1, r2, e1, e2, h.1.put0.up, rr_yT h.2.1 (c_put_ne (by decide)), by rw [c_put_ne (by decide), c_put_get, if_neg (by decide)]; exact h.2.2⟩
theorem rr_zero : rr_Inv 0 d_S0 := by
  have z9 : z_lb (0 : Int64) (64 ^ 9) := ⟨by decide, by decide⟩
  have z3 : z_lb (0 : Int64) (64 ^ 3) := ⟨by decide, by decide⟩
  have zt : 0 ≤ (0 : Int32).toInt ∧ (0 : Int32).toInt ≤ 255 := ⟨by decide, by decide⟩
  refine ⟨⟨0, fun _ => f_t, 0, 0, by omega, rfl, by omega, rfl, ⟨by omega, by omega, ⟨fun _ => 0, rfl, fun c hc => absurd hc (by omega)⟩, fun c hc => absurd hc (by omega), fun c hc => absurd hc (by omega)⟩, rfl, ⟨fun i _ => ⟨0, by omega, rfl⟩, fun i _ => ⟨z9, z3⟩, fun i => ⟨⟨0, by omega, rfl⟩, ⟨0, by omega, rfl⟩, Or.inr ⟨0, by omega, rfl⟩, Or.inr ⟨0, by omega, rfl⟩⟩⟩, fun i => zt, ⟨0, by omega, rfl⟩, ⟨0, by omega, rfl⟩⟩, ⟨1, by omega, by omega, rfl⟩, rfl⟩
theorem rr_OK : p_OK rr_Inv := by
  refine ⟨rr_zero, fun j σ hj h => ⟨⟨h.1.up, h.2⟩, fun a b c => ?_, ?_, ?_, ?_, ?_, ?_, fun a b => ?_, ?_, fun a => ?_, fun a => ?_, fun a => ?_⟩⟩
  · obtain ⟨hI, hT, h11⟩ := h
    obtain ⟨T, κ, nc, m, h1, h2, -⟩ := id hI
    obtain ⟨σ1, e1, t1, f1, f2, f3⟩ := ta_feed 1498 a b c σ h1 (h11.trans h2)
    have hI1 : rr_I j σ1 := hI.cl (fun x hx => f1 x (by omega) (by omega)) f3
    obtain ⟨σ2, e2, t2, c2, hI2⟩ := rr_feed 1498 a b c j σ1 hI1 (by rw [f1 34 (by decide) (by decide)]; exact h2) h1
    exact ⟨σ1, σ2, _, e1, e2, hI2, rr_yT hT ((c2 3 (by omega)).trans (f1 3 (by decide) (by decide))), by rw [c2 1 (by omega), t1, t2]⟩
  · exact rr_run h (fun s hs => cl_declare 1500 (by omega) s hs) (fun s hs => rr_declare 1500 (by omega) j (by omega) s hs)
  · exact rr_run h (fun s hs => cl_canon 1500 (by omega) s hs) (fun s hs => rr_canon 1500 (by omega) j (by omega) s hs)
  · exact rr_run h (fun s hs => cl_type 1500 (by omega) s hs) (fun s hs => rr_type 1500 (by omega) j (by omega) s hs)
  · exact rr_run h (fun s hs => cl_equal 1500 (by omega) s hs) (fun s hs => rr_equal 1500 (by omega) j (by omega) s hs)
  · exact rr_run h (fun s hs => cl_named 1500 (by omega) s hs) (fun s hs => rr_named 1500 (by omega) j (by omega) s hs)
  · exact rr_look h (q_Fb_constant 1500 (by omega) a b σ) (rr_constant 1500 (by omega) j a b σ h.1)
  · exact rr_look h (q_Fb_size 1500 (by omega) σ) (rr_size 1500 (by omega) σ)
  · exact rr_look h (q_Fb_out 1500 (by omega) a σ) (rr_out 1500 (by omega) j a σ h.1)
  · obtain ⟨σ1, r1, e1, ⟨y1, y2⟩, y3⟩ := cl_forget 1500 (by omega) a σ h.2.1
    obtain ⟨c1, l1⟩ := y1.ref
    obtain ⟨σ2, r2, e2, f, hI⟩ := rr_forget 1500 (by omega) j a σ1 (h.1.cl c1 l1)
    exact ⟨σ1, σ2, r1, r2, e1, e2, hI.up, rr_yT y2 (f.1 3 rfl (by decide)), by rw [f.1 1 rfl (by decide), f.2.1 2 rfl, y3, c1 34 (by omega)]; exact h.2.2⟩
  · exact rr_look h (q_Fb_count 1500 (by omega) a σ) (rr_count 1500 (by omega) a σ)
