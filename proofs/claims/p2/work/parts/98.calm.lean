theorem rr_W.tl {κ : Nat → Std.Format} {nc m C L B W : Nat} {s σ : c_S} (h : rr_W κ nc m s) (x : n_ex C L B W s σ) (hS : ∃ S, S ≤ 60000 ∧ σ.1 34 41 = nI S) : rr_W κ nc m σ := h.mv (z_F.mono x.1 rfl) (x.2.1.1.o h.1.2.1) (h.2.2.1.of x.1 rfl) hS
theorem rr_123 (d : Nat) (D : Nat) (hD : D ≤ 2000) : ∀ (n j : Nat) (s : c_S), D ≤ j + n → j ≤ D → s.1 34 64 = nI D → k_ok (b_Rm_tell_123 (c_M d) (nI j) s) (fun σ _ => z_F [69] [70] [] s σ ∧ σ.1 34 70 = nI D)
  | 0, j, s, hn, hj, e => by
    rw [e_Rm_tell_123, e, if_neg (nI_nlt (by omega) (by omega))]
    exact k_some ⟨z_F.puf z_F.rf rfl, c_put_same⟩
  | n + 1, j, s, hn, hj, e => by
    rw [e_Rm_tell_123, e]
    by_cases h : j < D
    · rw [if_pos (nI_lt h (by omega)), c_rg_nI (by omega) (by decide), c_rg_nI (by omega) (by decide), nI_1]
      refine k_mono (rr_123 d D hD n (j + 1) _ (by omega) (by omega) (by rw [c_put_off (by decide)]; exact e)) (fun σ r g => ⟨z_F.tr (z_F.put z_F.rf rfl (by decide)) g.1, g.2⟩)
    · rw [if_neg (nI_nlt (by omega) (by omega))]
      exact k_some ⟨z_F.puf z_F.rf rfl, c_put_same⟩
theorem rr_W.out {κ : Nat → Std.Format} {nc m : Nat} {s σ : c_S} (h : rr_W κ nc m s) (f : z_F [69] [70] [] s σ) (ho : ∃ o, o ≤ 2000 ∧ σ.1 34 70 = nI o) : rr_W κ nc m σ := by
  obtain ⟨h1, h2, h3, h4, h5, h6⟩ := h
  exact ⟨h1.of (f.o rfl) (f.1 49 rfl (by decide)) (f.1 50 rfl (by decide)) (f.1 51 rfl (by decide)) (fun c _ => by rw [f.1 52 rfl (by decide)]) (f.2.2 47 rfl) (f.2.2 48 rfl), by rw [f.2.1 21 rfl]; exact h2, h3.of f rfl, h4.of (f.1 35 rfl (by decide)), by rw [f.2.1 41 rfl]; exact h5, ho⟩
/-- the end of telling -/
theorem rr_108 (d : Nat) {κ : Nat → Std.Format} {nc m M j : Nat} (hm : m ≤ M) (hM : M ≤ 48 * j) (s0 s : c_S) (c : ∀ b, b < 34 → s.1 b = s0.1 b) (h2 : s.1 34 2 = 0) (hW : rr_W κ nc m s) (hD : s.1 34 9 = 0 → n_D s) : k_ok (b_Rm_tell_108 (c_M d) (nI m) s) (fun σ _ => rr_Q j s0 σ) := by
  have f : z_F [] [16] [] s (c_put s 34 16 (nI m)) := z_F.puf z_F.rf rfl
  have e16 : (c_put s 34 16 (nI m)).1 34 16 = nI m := c_put_same
  have W1 := hW.fld f rfl
  have e64 := f.2.1 64 rfl
  have e2 : (c_put s 34 16 (nI m)).1 34 2 = 0 := by rw [f.2.1 2 rfl]; exact h2
  have c1 : ∀ b, b < 34 → (c_put s 34 16 (nI m)).1 b = s0.1 b := fun b hb => (rr_C.of f rfl b hb).trans (c b hb)
  rw [e_Rm_tell_108]
  generalize c_put s 34 16 (nI m) = s1 at f e16 W1 e64 e2 c1 ⊢
  refine k_if (fun h9 => ?_) (fun _ => k_some (rr_Q.mk c1 e2 hm hM e16 W1))
  obtain ⟨D, hD1, hD2⟩ := hD h9
  refine k_mono (rr_123 d D hD1 D 0 s1 (by omega) (by omega) (e64.trans hD2)) (fun σ r g => ?_)
  exact rr_Q.mk (fun b hb => (rr_C.of g.1 rfl b hb).trans (c1 b hb)) (by rw [g.1.2.1 2 rfl]; exact e2) hm hM (by rw [g.1.2.1 16 rfl]; exact e16) (W1.out g.1 ⟨D, hD1, g.2⟩)
set_option maxHeartbeats 1000000 in
theorem rr_tell (d : Nat) (hd : 780 ≤ d) (j : Nat) (hj : j ≤ 512) (i1 : Int32) (s : c_S) (h : rr_I j s) : k_ok (c_M d 92 [v_r 34, v_i i1] s) (fun σ _ => rr_Q j s σ) := by
  obtain ⟨d, rfl⟩ : ∃ e, d = e + 1 := ⟨d - 1, by omega⟩
  obtain ⟨T0, κ, nc, m, hT, e2, hm, e16, hW⟩ := h
  have f0 : z_F [] [0] [] s (c_put s 34 0 0) := z_F.puf z_F.rf rfl
  rw [m_Rm_tell, e_Rm_tell_0]
  refine k_bd (rr_begins d (by omega) _ (rr_put0 hW) hT (by rw [f0.2.1 2 rfl]; exact e2) (by rw [f0.2.1 16 rfl]; exact e16) (by omega)) (fun s1 x1 g1 => ?_)
  obtain ⟨c1, t1, e17, N, S, h1⟩ := g1
  have cc1 : ∀ b, b < 34 → s1.1 b = s.1 b := fun b hb => (c1 b hb).trans (rr_C.of f0 rfl b hb)
  have hM : m + 2 * T0 ≤ 48 * j := hm
  refine k_bd (rr_askOne d (by omega) s1 h1 e17) (fun s2 x2 g2 => ?_)
  obtain ⟨Y2, W2, g2⟩ := g2
  have cc2 : ∀ b, b < 34 → s2.1 b = s.1 b := fun b hb => (Y2.1 b hb).trans (cc1 b hb)
  have t2 : s2.1 34 2 = 0 := Y2.2.trans t1
  rw [h1.1.2.2.2.1]
  rcases g2 with D2 | ⟨C, L, W, t, S2, T, n, w, y, τ, hS2, rfl, bC, bL, hw, ⟨⟨kk, hO⟩, hok, hfin, ⟨na, Γa, k3, ky, is1, is2, is3⟩, -, hyw⟩⟩
  · rw [if_neg (x_gt D2.1)]
    exact rr_108 d (M := m + 2 * T0) (by omega) hM s s2 cc2 t2 W2 (fun h9 => absurd h9 (x_gt D2.1))
  have hK2 := hS2.2.2.2.2.2.2.1.1
  have hnc := hK2.1
  rw [if_pos hS2.1.2.1]
  refine k_bd (n_countXs d (by omega) nc hnc s2 W2.1.2.2.2.2 W2.2.1) (fun s3 x3 f3 => ?_)
  rw [e_Rm_tell_30]
  have f4 : z_F [] [53, 64, 66] [] s3 (c_put (c_put (c_put s3 34 64 0) 34 66 0) 34 53 0) := z_F.puf (z_F.puf (z_F.puf z_F.rf rfl) rfl) rfl
  have q53 : (c_put (c_put (c_put s3 34 64 0) 34 66 0) 34 53 0).1 34 53 = nI 0 := c_put_same
  have q64 : (c_put (c_put (c_put s3 34 64 0) 34 66 0) 34 53 0).1 34 64 = nI 0 := by rw [c_put_get, if_neg (by decide), c_put_get, if_neg (by decide), c_put_same]; rfl
  have F : z_F [68] [53, 64, 65, 66, 68] [] s2 (c_put (c_put (c_put s3 34 64 0) 34 66 0) 34 53 0) := z_F.tr (z_F.mono f3 rfl) (z_F.mono f4 rfl)
  rw [f3.2.1 60 rfl, f3.2.1 61 rfl, is1]
  generalize c_put (c_put (c_put s3 34 64 0) 34 66 0) 34 53 0 = s4 at f4 q53 q64 F ⊢
  obtain ⟨-, ⟨b1, b2, b3, b4, b5⟩, b6, b7, ⟨b8, b9⟩, -⟩ := id hS2
  have ag : w_ag C L W s2 s4 := ⟨o_ag.of F rfl, fun h _ => by rw [F.1 53 rfl (by decide), F.1 54 rfl (by decide)]; exact ⟨rfl, rfl⟩, fun h _ => by rw [F.1 55 rfl (by decide), F.1 56 rfl (by decide)]; exact ⟨rfl, rfl⟩, fun h _ => by rw [F.1 59 rfl (by decide), F.1 60 rfl (by decide)]; exact ⟨rfl, rfl⟩⟩
  have W4 : rr_W κ nc m s4 := W2.mv (z_F.mono F rfl) (F.o rfl) (W2.2.2.1.of F rfl) (by rw [F.2.1 41 rfl]; exact W2.2.2.2.2.1)
  have cc4 : ∀ b, b < 34 → s4.1 b = s.1 b := fun b hb => (rr_C.of F rfl b hb).trans (cc2 b hb)
  have t4 : s4.1 34 2 = 0 := by rw [F.2.1 2 rfl]; exact t2
  have hv4 : v_S C L 0 W t S2 0 s4 := ⟨⟨by rw [F.2.1 30 rfl]; exact b1, by rw [F.2.1 33 rfl]; exact b2, by rw [F.2.1 36 rfl]; exact b3, ⟨by rw [F.2.1 42 rfl]; exact b6.1, b6.2⟩, ⟨by rw [F.2.1 41 rfl]; exact b7.1, b7.2⟩⟩, by rw [F.2.1 40 rfl]; exact b4, q53, by omega⟩
  have nv4 : n_S nc C L 0 W t S2 0 s4 := ⟨hv4, ⟨0, by omega, q64⟩, W4.1.2.2.2.2⟩
  have hK4 := w_K_ag hK2 ag.1 (F.1 50 rfl (by decide)) (F.1 51 rfl (by decide))
  have hY4 : o_Y s4 κ nc ky y Γa na τ := o_Y_eq (z_n F rfl) ky y Γa na τ is2
  have hW4 : w_W s4 κ nc C L W k3 (.inr (s2.1 34 61)) Γa := w_W_ag ag k3 _ Γa is3
  have hO4 : o_T s4 κ nc kk 38 [] n τ := o_T_ag ag.1 kk 38 [] n τ hO
  have hn76 := o_T_ok (fun c hc => (hK4.2 c hc).1) kk 38 [] n τ (fun x hx => absurd hx (by simp)) hO4
  have ht20 := b6.2
  -- the end
  have fin : ∀ (sa : c_S) (C1 : Nat) (G : Nat → Nat → Nat → Nat → Prop) (σ : c_S) (r : Int32), (∀ b, b < 34 → sa.1 b = s.1 b) → sa.1 34 2 = 0 → rr_W κ nc m sa → n_P nc C1 L 0 W t 0 0 y 0 G sa σ r → k_ok (b_Rm_tell_86 (c_M d) (nI m) r σ) (fun σ _ => rr_Q j s σ) := by
    intro sa C1 G σ r hca hta hWa g
    obtain ⟨ex, C', L', B', W', t', S', nvσ, -, -⟩ := g
    have Wσ : rr_W κ nc m σ := hWa.tl ex ⟨S', nvσ.1.1.2.2.2.2.2, nvσ.1.1.2.2.2.2.1⟩
    have cσ : ∀ b, b < 34 → σ.1 b = s.1 b := fun b hb => (rr_C.of ex.1 rfl b hb).trans (hca b hb)
    have tσ : σ.1 34 2 = 0 := by rw [ex.1.2.1 2 rfl]; exact hta
    rw [e_Rm_tell_86]
    refine k_if (fun _ => rr_108 d (M := m + 2 * T0) (by omega) hM s σ cσ tσ Wσ (fun _ => nvσ.2.1)) (fun _ => ?_)
    have f9 : z_F [] [9] [] σ (c_put σ 34 9 (r + 16 * (σ.1 34 3))) := z_F.puf z_F.rf rfl
    refine rr_108 d (M := m + 2 * T0) (by omega) hM s _ (fun b hb => (rr_C.of f9 rfl b hb).trans (cσ b hb)) (by rw [f9.2.1 2 rfl]; exact tσ) (Wσ.fld f9 rfl) (fun _ => ?_)
    obtain ⟨D, hD1, hD2⟩ := nvσ.2.1
    exact ⟨D, hD1, by rw [f9.2.1 64 rfl]; exact hD2⟩
  refine k_if (fun _ => ?_) (fun _ => ?_)
  · obtain ⟨s5, es5, f5, m1, m2, m3, m4⟩ := w_closure d (by omega) (nI n) (-1) s4 C (by omega) hv4.1.1
    rw [es5, c_bd_some, f5.2.1 60 rfl, f5.2.1 61 rfl, f4.2.1 60 rfl, f4.2.1 61 rfl, f3.2.1 60 rfl, f3.2.1 61 rfl, is1]
    have ex5 : v_ex C L 0 W s4 s5 := ⟨z_F.mono f5 rfl, ⟨o_ag.of f5 rfl, m4, fun h _ => by rw [f5.1 55 rfl (by decide), f5.1 56 rfl (by decide)]; exact ⟨rfl, rfl⟩, fun h _ => by rw [f5.1 59 rfl (by decide), f5.1 60 rfl (by decide)]; exact ⟨rfl, rfl⟩⟩, fun i hi => absurd hi (by omega)⟩
    have hv5 : v_S (C + 1) L 0 W t S2 0 s5 := ⟨⟨m1, by rw [f5.2.1 33 rfl]; exact hv4.1.2.1, by rw [f5.2.1 36 rfl]; exact hv4.1.2.2.1, ⟨by rw [f5.2.1 42 rfl]; exact hv4.1.2.2.2.1.1, hv4.1.2.2.2.1.2⟩, ⟨by rw [f5.2.1 41 rfl]; exact hv4.1.2.2.2.2.1, hv4.1.2.2.2.2.2⟩⟩, by rw [f5.2.1 40 rfl]; exact hv4.2.1, by rw [f5.2.1 53 rfl]; exact hv4.2.2.1, by omega⟩
    have nv5 := nv4.v ex5 hv5
    have hcl : w_W s5 κ nc (C + 1) L W 2 (.inl C) [f_l [] τ] := ⟨by omega, Or.inl ⟨τ, n, [], rfl, m2, ⟨kk, 38, by omega, o_T_ag ex5.2.1.1 kk 38 [] n τ hO4⟩, m3⟩⟩
    refine k_bd ((n_all κ nc 100 0 d (by omega) (by omega) (by omega)).1 (C + 1) L 0 W t S2 y ky k3 na C 2 Γa [] τ _ (-1) 0 0 s5 nv5 (ex5.K hK4) hok hfin (ex5.Y hY4) (ex5.W hW4 (Nat.le_refl _) (by omega) (Nat.le_refl _) (Nat.le_refl _)) rfl hcl (by simpa using (by omega : f_n τ ≤ 76)) (by omega) ⟨by omega, by omega, by omega, by omega⟩) (fun s6 x6 g6 => ?_)
    exact fin s5 (C + 1) _ s6 x6 (fun b hb => (rr_C.of f5 rfl b hb).trans (cc4 b hb)) (by rw [f5.2.1 2 rfl]; exact t4) (W4.tl ex5.n ⟨S2, b7.2, hv5.1.2.2.2.2.1⟩) g6
  · refine k_bd ((n_all κ nc 100 0 d (by omega) (by omega) (by omega)).2 C L 0 W t S2 y ky k3 na Γa τ _ 0 s4 nv4 hK4 hok hfin hY4 hW4 (by omega) ⟨by omega, by omega, by omega, by omega⟩) (fun s6 x6 g6 => ?_)
    exact fin s4 C _ s6 x6 cc4 t4 W4 g6
theorem rr_canon (d : Nat) (hd : 790 ≤ d) (j : Nat) (hj : j ≤ 512) (s : c_S) (h : rr_I j s) : k_ok (c_M d 93 [v_r 34] s) (fun σ _ => rr_Q j s σ) := by
  obtain ⟨d, rfl⟩ : ∃ e, d = e + 1 := ⟨d - 1, by omega⟩
  rw [m_Rm_canon, e_Rm_canon_0]
  exact k_bd (rr_tell d (by omega) j hj 0 s h) (fun σ r g => k_some g)
theorem rr_type (d : Nat) (hd : 790 ≤ d) (j : Nat) (hj : j ≤ 512) (s : c_S) (h : rr_I j s) : k_ok (c_M d 94 [v_r 34] s) (fun σ _ => rr_Q j s σ) := by
  obtain ⟨d, rfl⟩ : ∃ e, d = e + 1 := ⟨d - 1, by omega⟩
  rw [m_Rm_type, e_Rm_type_0]
  exact k_bd (rr_tell d (by omega) j hj 1 s h) (fun σ r g => k_some g)
