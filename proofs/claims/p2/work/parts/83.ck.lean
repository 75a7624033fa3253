/-! within a { } or [ ] -/
set_option maxHeartbeats 1000000 in
theorem h_bind (d : Nat) (hd : 3 ≤ d) {κ : Nat → Std.Format} {nc M C L W t S T R : Nat} {Γ : List Std.Format} (n a kk : Nat) (τ : Std.Format) (hn : n < 120000) (s : c_S) (hs : h_S κ nc M C L W t S T R Γ s) (hΓ : Γ.length < 64) (hC : C < 400000) (hL : L < 400000) (hW : W + 1 ≤ t) (ea : s.1 41 n = nI a) (hF : o_F s κ nc kk 37 Γ a τ) (hfin : f_fin τ) : ∃ σ, c_M d 64 [v_r 34, v_i (nI n)] s = some (σ, 0) ∧ h_S κ nc M (C + 1) (L + 1) (W + 1) t S T R (τ :: Γ) σ ∧ (∀ lo m, h_fr lo m C L W T R Γ.length s σ) ∧ σ.1 34 54 = nI L ∧ σ.1 56 L = s.1 34 54 ∧ z_F [53, 54, 55, 56, 59, 60, 61, 64, 65] [30, 33, 40, 54, 55] [] s σ := by
  obtain ⟨d, rfl⟩ : ∃ e, d = e + 1 := ⟨d - 1, by omega⟩
  obtain ⟨⟨a1, a2, m, a3, a4⟩, ⟨b1, b2, b3, b4, b5⟩, c1, c2, ⟨e1, e2⟩, f1, ⟨g1, g2, g3⟩, i1, i2, kc, i3⟩ := id hs
  rw [m_Rm_bind, e_Rm_bind_0, c_rg_nI (by omega) (by decide), i1, c_rg_nI hΓ (by decide), c_rg_nI (by omega) (by decide), c_rg_nI hΓ (by decide), c_rg_nI (by omega) (by decide), nI_clamp (show n < 2 ^ 31 by omega), nI_clamp (show Γ.length < 2 ^ 31 by omega), ea, nI_1]
  have F1 : z_F [64, 65] [55] [] s (c_put (c_put (c_put s 64 Γ.length (s.1 46 n)) 65 Γ.length (nI a)) 34 55 (nI (Γ.length + 1))) := z_F.puf (z_F.put (z_F.put z_F.rf rfl (by decide)) rfl (by decide)) rfl
  have p64 : (c_put (c_put (c_put s 64 Γ.length (s.1 46 n)) 65 Γ.length (nI a)) 34 55 (nI (Γ.length + 1))).1 64 Γ.length = s.1 46 n := by rw [c_put_off (by decide), c_put_off (by decide), c_put_same]
  have p65 : (c_put (c_put (c_put s 64 Γ.length (s.1 46 n)) 65 Γ.length (nI a)) 34 55 (nI (Γ.length + 1))).1 65 Γ.length = nI a := by rw [c_put_off (by decide), c_put_same]
  have p55 : (c_put (c_put (c_put s 64 Γ.length (s.1 46 n)) 65 Γ.length (nI a)) 34 55 (nI (Γ.length + 1))).1 34 55 = nI (Γ.length + 1) := c_put_same
  have po : ∀ i, i < Γ.length → (c_put (c_put (c_put s 64 Γ.length (s.1 46 n)) 65 Γ.length (nI a)) 34 55 (nI (Γ.length + 1))).1 64 i = s.1 64 i ∧ (c_put (c_put (c_put s 64 Γ.length (s.1 46 n)) 65 Γ.length (nI a)) 34 55 (nI (Γ.length + 1))).1 65 i = s.1 65 i := fun i hi => ⟨by rw [c_put_off (by decide), c_put_off (by decide), c_put_get, if_neg (by omega)], by rw [c_put_off (by decide), c_put_get, if_neg (by omega), c_put_off (by decide)]⟩
  generalize c_put (c_put (c_put s 64 Γ.length (s.1 46 n)) 65 Γ.length (nI a)) 34 55 (nI (Γ.length + 1)) = s1 at F1 p64 p65 p55 po ⊢
  have X1 : ∀ lo m, h_fr lo m C L W T R Γ.length s s1 := fun lo m => ⟨z_F.mono F1 rfl, ⟨o_ag.of F1 rfl, fun h _ => by rw [F1.1 53 rfl (by decide), F1.1 54 rfl (by decide)]; exact ⟨rfl, rfl⟩, fun h _ => by rw [F1.1 55 rfl (by decide), F1.1 56 rfl (by decide)]; exact ⟨rfl, rfl⟩, fun h _ => by rw [F1.1 59 rfl (by decide), F1.1 60 rfl (by decide)]; exact ⟨rfl, rfl⟩⟩, fun i _ _ => by rw [F1.1 40 rfl (by decide), F1.1 41 rfl (by decide), F1.1 42 rfl (by decide)]; exact ⟨rfl, rfl, rfl⟩, po, fun i _ => by rw [F1.1 66 rfl (by decide)]⟩
  -- the new VAR: v_new wants questions in its state, so the count of questions is given as it is
  have F53 : z_F [] [53] [] s1 (c_put s1 34 53 (s1.1 34 53)) := z_F.puf z_F.rf rfl
  obtain ⟨W1, hW1⟩ : ∃ W1, W1 = W := ⟨W, rfl⟩
  have hnew : ∃ σ, c_M d 44 [v_r 34, v_i (nI a), v_i (s.1 34 54), v_i 0] s1 = some (σ, nI C) ∧ z_F [53, 54, 59, 60, 61] [30, 40] [] s1 σ ∧ w_ag C L W s1 σ ∧ σ.1 34 30 = nI (C + 1) ∧ σ.1 34 40 = nI (W + 1) ∧ w_W σ κ nc (C + 1) L (W + 1) (kc + 1) (.inl C) [τ] := by
    obtain ⟨d, rfl⟩ : ∃ e, d = e + 1 := ⟨d - 1, by omega⟩
    have hWl : W < 24000 := by omega
    have q40 : s1.1 34 40 = nI W := by rw [F1.2.1 40 rfl]; exact b4
    rw [m_Rm_newVar, e_Rm_newVar_0, q40, c_rg_nI hWl (by decide), c_rg_nI hWl (by decide), c_rg_nI hWl (by decide), nI_clamp (show W < 2 ^ 31 by omega), nI_1]
    have G1 : z_F [59, 60, 61] [40] [] s1 (c_put (c_put (c_put (c_put s1 59 W (nI a)) 60 W (s.1 34 54)) 61 W 0) 34 40 (nI (W + 1))) := z_F.puf (z_F.put (z_F.put (z_F.put z_F.rf rfl (by decide)) rfl (by decide)) rfl (by decide)) rfl
    have e59 : (c_put (c_put (c_put (c_put s1 59 W (nI a)) 60 W (s.1 34 54)) 61 W 0) 34 40 (nI (W + 1))).1 59 W = nI a := by rw [c_put_off (by decide), c_put_off (by decide), c_put_off (by decide), c_put_same]
    have e60 : (c_put (c_put (c_put (c_put s1 59 W (nI a)) 60 W (s.1 34 54)) 61 W 0) 34 40 (nI (W + 1))).1 60 W = s.1 34 54 := by rw [c_put_off (by decide), c_put_off (by decide), c_put_same]
    have o59 : ∀ w, w < W → (c_put (c_put (c_put (c_put s1 59 W (nI a)) 60 W (s.1 34 54)) 61 W 0) 34 40 (nI (W + 1))).1 59 w = s1.1 59 w ∧ (c_put (c_put (c_put (c_put s1 59 W (nI a)) 60 W (s.1 34 54)) 61 W 0) 34 40 (nI (W + 1))).1 60 w = s1.1 60 w := fun w hw => ⟨by rw [c_put_off (by decide), c_put_off (by decide), c_put_off (by decide), c_put_get, if_neg (by omega)], by rw [c_put_off (by decide), c_put_off (by decide), c_put_get, if_neg (by omega), c_put_off (by decide)]⟩
    have e40 : (c_put (c_put (c_put (c_put s1 59 W (nI a)) 60 W (s.1 34 54)) 61 W 0) 34 40 (nI (W + 1))).1 34 40 = nI (W + 1) := c_put_same
    generalize c_put (c_put (c_put (c_put s1 59 W (nI a)) 60 W (s.1 34 54)) 61 W 0) 34 40 (nI (W + 1)) = s2 at G1 e59 e60 o59 e40 ⊢
    obtain ⟨σ, es, f2, m1, m2, m3, m4⟩ := w_closure d (by omega) (-nI (W + 1)) (-1) s2 C hC (by rw [G1.2.1 30 rfl, F1.2.1 30 rfl]; exact b1)
    rw [es, c_bd_some]
    have fz : z_F [53, 54, 59, 60, 61] [30, 40] [] s1 σ := z_F.tr (z_F.mono G1 rfl) (z_F.mono f2 rfl)
    have ag : w_ag C L W s1 σ := ⟨o_ag.of fz rfl, fun h hh => ⟨(m4 h hh).1.trans (by rw [G1.1 53 rfl (by decide)]), (m4 h hh).2.trans (by rw [G1.1 54 rfl (by decide)])⟩, fun h _ => by rw [fz.1 55 rfl (by decide), fz.1 56 rfl (by decide)]; exact ⟨rfl, rfl⟩, fun w hw => by rw [f2.1 59 rfl (by decide), f2.1 60 rfl (by decide)]; exact o59 w hw⟩
    have ag0 : w_ag C L W s σ := (X1 0 0).2.1.tr ag
    refine ⟨σ, rfl, fz, ag, m1, by rw [f2.2.1 40 rfl]; exact e40, by omega, Or.inr ⟨τ, W, a, Γ, rfl, m2, by omega, by rw [f2.1 59 rfl (by decide)]; exact e59, ⟨kk, o_F_ag ag0.1 kk 37 Γ a τ hF⟩, ?_⟩⟩
    rw [f2.1 60 rfl (by decide), e60]
    exact w_W_up (by omega) (Nat.le_refl _) (by omega) kc kc _ Γ (Nat.le_refl _) (w_W_ag ag0 kc _ Γ i3)
  obtain ⟨s2, es2, F2, ag2, q30, q40, hcl⟩ := hnew
  rw [es2, c_bd_some]
  obtain ⟨s3, es3, F3, l1, l2, l3, l4⟩ := w_list d (by omega) (nI C) (s2.1 34 54) s2 L hL (by rw [F2.2.1 33 rfl, F1.2.1 33 rfl]; exact b2)
  rw [es3, c_bd_some]
  have c54 : s2.1 34 54 = s.1 34 54 := by rw [F2.2.1 54 rfl, F1.2.1 54 rfl]
  rw [c54] at l3
  have F4 : z_F [] [54] [] s3 (c_put s3 34 54 (nI L)) := z_F.puf z_F.rf rfl
  have Fz : z_F [53, 54, 55, 56, 59, 60, 61, 64, 65] [30, 33, 40, 54, 55] [] s (c_put s3 34 54 (nI L)) := z_F.tr (z_F.mono F1 rfl) (z_F.tr (z_F.mono F2 rfl) (z_F.tr (z_F.mono F3 rfl) (z_F.mono F4 rfl)))
  have ag3 : w_ag C L W s2 s3 := ⟨o_ag.of F3 rfl, fun h _ => by rw [F3.1 53 rfl (by decide), F3.1 54 rfl (by decide)]; exact ⟨rfl, rfl⟩, l4, fun h _ => by rw [F3.1 59 rfl (by decide), F3.1 60 rfl (by decide)]; exact ⟨rfl, rfl⟩⟩
  have ag4 : w_ag C L W s3 (c_put s3 34 54 (nI L)) := (h_fr.fld (lo := 0) (n := 0) (T := 0) (R := 0) (b := 0) (z_F.mono F4 rfl)).2.1
  have agz : w_ag C L W s (c_put s3 34 54 (nI L)) := (X1 0 0).2.1.tr (ag2.tr (ag3.tr ag4))
  have X : ∀ lo m, h_fr lo m C L W T R Γ.length s (c_put s3 34 54 (nI L)) := fun lo m => ⟨z_F.mono Fz rfl, agz, fun i _ _ => by rw [Fz.1 40 rfl (by decide), Fz.1 41 rfl (by decide), Fz.1 42 rfl (by decide)]; exact ⟨rfl, rfl, rfl⟩, fun i hi => by rw [F4.1 64 rfl (by decide), F4.1 65 rfl (by decide), F3.1 64 rfl (by decide), F3.1 65 rfl (by decide), F2.1 64 rfl (by decide), F2.1 65 rfl (by decide)]; exact po i hi, fun i _ => by rw [Fz.1 66 rfl (by decide)]⟩
  have hag1 : w_ag (C + 1) L (W + 1) s2 (c_put s3 34 54 (nI L)) := by
    have g3' : w_ag (C + 1) L (W + 1) s2 s3 := ⟨o_ag.of F3 rfl, fun h _ => by rw [F3.1 53 rfl (by decide), F3.1 54 rfl (by decide)]; exact ⟨rfl, rfl⟩, l4, fun h _ => by rw [F3.1 59 rfl (by decide), F3.1 60 rfl (by decide)]; exact ⟨rfl, rfl⟩⟩
    exact g3'.tr (h_fr.fld (lo := 0) (n := 0) (T := 0) (R := 0) (b := 0) (z_F.mono F4 rfl)).2.1
  have hτ37 : f_n τ ≤ 37 := (o_F_ok kk 37 Γ a τ (by omega) hF).1
  have hτok : f_ok τ := (o_F_ok kk 37 Γ a τ (by omega) hF).2
  refine ⟨_, rfl, ⟨⟨a1.of Fz rfl, by rw [Fz.2.1 9 rfl]; exact a2, m, a3, by rw [Fz.2.1 16 rfl]; exact a4⟩, ⟨by rw [F4.2.1 30 rfl, F3.2.1 30 rfl]; exact q30, by rw [F4.2.1 33 rfl]; exact l1, by rw [Fz.2.1 36 rfl]; exact b3, by rw [F4.2.1 40 rfl, F3.2.1 40 rfl]; exact q40, hW⟩, ⟨by rw [Fz.2.1 42 rfl]; exact c1.1, c1.2⟩, ⟨by rw [Fz.2.1 41 rfl]; exact c2.1, c2.2⟩, ⟨by rw [Fz.2.1 17 rfl]; exact e1, e2⟩, by rw [Fz.2.1 59 rfl]; exact f1, ⟨(X 0 0).K g1, (X 0 0).hK g2, by rw [Fz.2.1 21 rfl]; exact g3⟩, ?_, ⟨⟨a, kk, ?_, (X 0 0).F hF⟩, ?_, h_bd_fr (X 0 0) Γ (Nat.le_refl _) i2⟩, max (kc + 1) kc + 1, L, C, c_put_same, by omega, ?_, ⟨⟨hτ37, hfin⟩, hτok⟩, ?_, ?_⟩, X, c_put_same, ?_, Fz⟩
  · rw [F4.2.1 55 rfl, F3.2.1 55 rfl, F2.2.1 55 rfl, List.length_cons]; exact p55
  · rw [F4.1 65 rfl (by decide), F3.1 65 rfl (by decide), F2.1 65 rfl (by decide)]; exact p65
  · rw [F4.1 64 rfl (by decide), F3.1 64 rfl (by decide), F2.1 64 rfl (by decide), p64]
    exact (a1.2.2 n).2.2.2
  · rw [F4.1 55 rfl (by decide)]; exact l2
  · exact w_W_up (Nat.le_refl _) (by omega) (Nat.le_refl _) (kc + 1) _ _ _ (by omega) (w_W_ag hag1 (kc + 1) _ _ hcl)
  · rw [F4.1 56 rfl (by decide), l3]
    exact w_W_up (by omega) (by omega) (by omega) kc _ _ Γ (by omega) (w_W_ag agz kc _ Γ i3)
  · rw [F4.1 56 rfl (by decide)]; exact l3
theorem h_unbind (d : Nat) (hd : 1 ≤ d) (L b : Nat) (hL : L < 400000) (s : c_S) (e54 : s.1 34 54 = nI L) (e55 : s.1 34 55 = nI (b + 1)) : c_M d 65 [v_r 34] s = some ((c_put (c_put s 34 55 (nI b)) 34 54 (s.1 56 L)), 0) := by
  obtain ⟨d, rfl⟩ : ∃ e, d = e + 1 := ⟨d - 1, by omega⟩
  rw [m_Rm_unbind, e_Rm_unbind_0, e54, c_rg_nI hL (by decide), nI_clamp (show L < 2 ^ 31 by omega), e55, nI_pred]
set_option maxHeartbeats 1000000 in
/-- are two families EQUAL: all counts stand as before -/
theorem h_wanted (d : Nat) (hd : 410 ≤ d) {κ : Nat → Std.Format} {nc M C L W t S T R : Nat} {Γ : List Std.Format} (a1 a2 y1 y2 ky1 ky2 k1 k2 p : Nat) (Γ1 Γ2 : List Std.Format) (τ1 τ2 : Std.Format) (l1 l2 : Int32) (hp : p < 4002) (s : c_S) (hs : h_S κ nc M C L W t S T R Γ s) (hR : R ≤ 700) (hC : C + y1 + y2 ≤ 300000) (hL : L + y1 + y2 ≤ 300000) (hy1 : y1 ≤ 16000) (hy2 : y2 ≤ 16000) (o1 : f_ok τ1) (f1 : f_fin τ1) (o2 : f_ok τ2) (f2 : f_fin τ2) (hY1 : o_Y s κ nc ky1 y1 Γ1 a1 τ1) (hY2 : o_Y s κ nc ky2 y2 Γ2 a2 τ2) (hW1 : w_W s κ nc C L W k1 (.inr l1) Γ1) (hW2 : w_W s κ nc C L W k2 (.inr l2) Γ2) :
    k_ok (c_M d 63 [v_r 34, v_i (nI a1), v_i l1, v_i (nI a2), v_i l2, v_i (nI p)] s) (fun σ _ => (∀ lo n, h_ex lo n C L W T R Γ.length s σ) ∧ (σ.1 34 30 = nI C ∧ σ.1 34 33 = nI L ∧ σ.1 34 17 = nI T ∧ σ.1 42 = s.1 42 ∧ σ.1 40 = s.1 40 ∧ σ.1 41 = s.1 41) ∧ (h_D M σ ∨ (τ1 = τ2 ∧ ∃ t' S', t ≤ t' ∧ h_S κ nc M C L W t' S' T R Γ σ))) := by
  obtain ⟨d, rfl⟩ : ∃ e, d = e + 2 := ⟨d - 2, by omega⟩
  obtain ⟨⟨q1, q2, m, q3, q4⟩, ⟨b1, b2, b3, b4, b5⟩, c1, c2, ⟨e1, e2⟩, r1, ⟨g1, g2, g3⟩, i1, i2, kc, i3⟩ := id hs
  rw [m_Rm_wanted, e_Rm_wanted_0, m_Rm_equalFamilies, e_Rm_equalFamilies_0, e_Rm_equalFamilies_29]
  have F0 : z_F [] [53] [] s (c_put s 34 53 0) := z_F.puf z_F.rf rfl
  have v0 : v_ex C L 0 W s (c_put s 34 53 0) := v_fld (z_F.mono F0 rfl)
  have hv0 : v_S C L 0 W t S 0 (c_put s 34 53 0) := ⟨⟨by rw [F0.2.1 30 rfl]; exact b1, by rw [F0.2.1 33 rfl]; exact b2, by rw [F0.2.1 36 rfl]; exact b3, ⟨by rw [F0.2.1 42 rfl]; exact c1.1, c1.2⟩, ⟨by rw [F0.2.1 41 rfl]; exact c2.1, c2.2⟩⟩, by rw [F0.2.1 40 rfl]; exact b4, c_put_same, by omega⟩
  have hfam := e_Fall κ nc 100 0 (d) (by omega) (by omega) (by omega) C L 0 W t S y1 y2 ky1 ky2 k1 k2 a1 a2 Γ1 Γ2 τ1 τ2 l1 l2 _ hv0 (v0.K g1) o1 f1 o2 f2 (v0.Y hY1) (v0.Y hY2) (v0.W hW1 (Nat.le_refl _) (Nat.le_refl _) (Nat.le_refl _) (Nat.le_refl _)) (v0.W hW2 (Nat.le_refl _) (Nat.le_refl _) (Nat.le_refl _) (Nat.le_refl _)) hy1 hy2 ⟨by omega, by omega, by omega, by omega⟩
  refine k_bd (Q := fun σ x => (∀ lo n, h_ex lo n C L W T R Γ.length s σ) ∧ (σ.1 34 30 = nI C ∧ σ.1 34 33 = nI L ∧ σ.1 34 17 = nI T ∧ σ.1 42 = s.1 42 ∧ σ.1 40 = s.1 40 ∧ σ.1 41 = s.1 41) ∧ (∃ t' S', t ≤ t' ∧ h_S κ nc M C L W t' S' T R Γ σ) ∧ ((x = 1 ∧ τ1 = τ2) ∨ (¬ x = 1 ∧ (x = 0 ∨ x = 9 ∨ x = 10)))) ?_ (fun s2 x2 g => ?_)
  · refine k_bd hfam (fun s1 x1 gg => k_some ?_)
    obtain ⟨ex, C', L', B', W', t', S', ⟨⟨u1, u2, u3, u4, u5⟩, v1, v2, v3⟩, ⟨n1, n2, n3, n4, n5, n6, -⟩, ans⟩ := gg
    have F2 : z_F [] [30, 33, 36, 40] [] s1 (c_put (c_put (c_put (c_put s1 34 30 (s.1 34 30)) 34 33 (s.1 34 33)) 34 36 (s.1 34 36)) 34 40 (s.1 34 40)) := z_F.puf (z_F.puf (z_F.puf (z_F.puf z_F.rf rfl) rfl) rfl) rfl
    have w30 : (c_put (c_put (c_put (c_put s1 34 30 (s.1 34 30)) 34 33 (s.1 34 33)) 34 36 (s.1 34 36)) 34 40 (s.1 34 40)).1 34 30 = nI C := by rw [c_put_get, if_neg (by decide), c_put_get, if_neg (by decide), c_put_get, if_neg (by decide), c_put_same]; exact b1
    have w33 : (c_put (c_put (c_put (c_put s1 34 30 (s.1 34 30)) 34 33 (s.1 34 33)) 34 36 (s.1 34 36)) 34 40 (s.1 34 40)).1 34 33 = nI L := by rw [c_put_get, if_neg (by decide), c_put_get, if_neg (by decide), c_put_same]; exact b2
    have w36 : (c_put (c_put (c_put (c_put s1 34 30 (s.1 34 30)) 34 33 (s.1 34 33)) 34 36 (s.1 34 36)) 34 40 (s.1 34 40)).1 34 36 = 0 := by rw [c_put_get, if_neg (by decide), c_put_same]; exact b3
    have w40 : (c_put (c_put (c_put (c_put s1 34 30 (s.1 34 30)) 34 33 (s.1 34 33)) 34 36 (s.1 34 36)) 34 40 (s.1 34 40)).1 34 40 = nI W := by rw [c_put_same]; exact b4
    generalize c_put (c_put (c_put (c_put s1 34 30 (s.1 34 30)) 34 33 (s.1 34 33)) 34 36 (s.1 34 36)) 34 40 (s.1 34 40) = s2 at F2 w30 w33 w36 w40 ⊢
    have vv := v0.tr ex (Nat.le_refl _) (Nat.le_refl _) (Nat.le_refl _) (Nat.le_refl _)
    have X : ∀ lo n, h_ex lo n C L W T R Γ.length s s2 := fun lo n => (vv.h).tr (h_ex.fld (z_F.mono F2 rfl)) (Nat.le_refl _) (Nat.le_refl _) (Nat.le_refl _) (Nat.le_refl _) (Nat.le_refl _) (Nat.le_refl _)
    have w17 : s2.1 34 17 = nI T := by rw [F2.2.1 17 rfl, vv.1.2.1 17 rfl]; exact e1
    refine ⟨X, ⟨w30, w33, w17, by rw [F2.1 42 rfl (by decide), vv.1.1 42 rfl (by decide)], by rw [F2.1 40 rfl (by decide), vv.1.1 40 rfl (by decide)], by rw [F2.1 41 rfl (by decide), vv.1.1 41 rfl (by decide)]⟩, ⟨t', S', n5, hs.to (X 0 0) (Nat.le_refl _) (Nat.le_refl _) (Nat.le_refl _) (by omega) (by rw [F2.2.1 9 rfl, vv.1.2.1 9 rfl]; exact q2) w30 w33 w36 w40 (by rw [F2.2.1 42 rfl]; exact u4.1) u4.2 (by rw [F2.2.1 41 rfl]; exact u5.1) u5.2 w17 e2 (by rw [F2.2.1 59 rfl, vv.1.2.1 59 rfl]; exact r1)⟩, ?_⟩
    rcases ans with ⟨h1, h2⟩ | h2
    · exact Or.inl ⟨h1, h2.1⟩
    · exact Or.inr h2
  · obtain ⟨X, cs, ⟨t', S', ht, hs2⟩, ans⟩ := g
    refine k_if (fun hx => ?_) (fun hx => ?_)
    · rcases ans with ⟨-, h2⟩ | ⟨h2, -⟩
      · exact k_some ⟨X, cs, Or.inr ⟨h2, t', S', ht, hs2⟩⟩
      · exact absurd hx h2
    · have bad : ∀ k : Int32, (1 ≤ k.toInt ∧ k.toInt ≤ 11) → k_ok (b_Rm_wanted_30 (c_M (d + 1)) (nI p) k s2) (fun σ _ => (∀ lo n, h_ex lo n C L W T R Γ.length s σ) ∧ (σ.1 34 30 = nI C ∧ σ.1 34 33 = nI L ∧ σ.1 34 17 = nI T ∧ σ.1 42 = s.1 42 ∧ σ.1 40 = s.1 40 ∧ σ.1 41 = s.1 41) ∧ (h_D M σ ∨ (τ1 = τ2 ∧ ∃ t' S', t ≤ t' ∧ h_S κ nc M C L W t' S' T R Γ σ))) := by
        intro k hk
        rw [e_Rm_wanted_30]
        refine k_bd (h_wrong (d + 1) (by omega) k hk p hp s2 hs2 hR) (fun σ r g => k_some ⟨fun lo n => (X lo n).tr (h_ex.fld (z_F.mono g.1 rfl)) (Nat.le_refl _) (Nat.le_refl _) (Nat.le_refl _) (Nat.le_refl _) (Nat.le_refl _) (Nat.le_refl _), ?_, Or.inl g.2⟩)
        rw [g.1.2.1 30 rfl, g.1.2.1 33 rfl, g.1.2.1 17 rfl, g.1.1 42 rfl (by decide), g.1.1 40 rfl (by decide), g.1.1 41 rfl (by decide)]
        exact cs
      rcases ans with ⟨h2, -⟩ | ⟨-, rfl | rfl | rfl⟩
      · exact absurd h2 hx
      · rw [if_pos rfl]; exact bad 7 (by decide)
      · rw [if_neg (by decide)]; exact bad 9 (by decide)
      · rw [if_neg (by decide)]; exact bad 10 (by decide)
