set_option maxHeartbeats 1000000 in
/-- EQUAL of two families, at the call equal -/
theorem h_eqF (d : Nat) (hd : 410 ≤ d) {κ : Nat → Std.Format} {nc M C L W t S T R : Nat} {Γ : List Std.Format} (a1 a2 y1 y2 ky1 ky2 k1 k2 : Nat) (Γ1 Γ2 : List Std.Format) (τ1 τ2 : Std.Format) (l1 l2 : Int32) (s : c_S) (hs : h_S κ nc M C L W t S T R Γ s) (hC : C + y1 + y2 ≤ 300000) (hL : L + y1 + y2 ≤ 300000) (hy1 : y1 ≤ 16000) (hy2 : y2 ≤ 16000) (o1 : f_ok τ1) (f1 : f_fin τ1) (o2 : f_ok τ2) (f2 : f_fin τ2) (hY1 : o_Y s κ nc ky1 y1 Γ1 a1 τ1) (hY2 : o_Y s κ nc ky2 y2 Γ2 a2 τ2) (hW1 : w_W s κ nc C L W k1 (.inr l1) Γ1) (hW2 : w_W s κ nc C L W k2 (.inr l2) Γ2) :
    k_ok (c_M d 62 [v_r 34, v_i (nI a1), v_i l1, v_i (nI a2), v_i l2] s) (fun σ x => (∀ lo n, h_ex lo n C L W T R Γ.length s σ) ∧ (∃ t' S', t ≤ t' ∧ h_S κ nc M C L W t' S' T R Γ σ) ∧ (x = 1 → τ1 = τ2)) := by
  obtain ⟨d, rfl⟩ : ∃ e, d = e + 1 := ⟨d - 1, by omega⟩
  obtain ⟨⟨q1, q2, m, q3, q4⟩, ⟨b1, b2, b3, b4, b5⟩, c1, c2, ⟨e1, e2⟩, r1, ⟨g1, g2, g3⟩, i1, i2, kc, i3⟩ := id hs
  rw [m_Rm_equalFamilies, e_Rm_equalFamilies_0, e_Rm_equalFamilies_29]
  have F0 : z_F [] [53] [] s (c_put s 34 53 0) := z_F.puf z_F.rf rfl
  have v0 : v_ex C L 0 W s (c_put s 34 53 0) := v_fld (z_F.mono F0 rfl)
  have hv0 : v_S C L 0 W t S 0 (c_put s 34 53 0) := ⟨⟨by rw [F0.2.1 30 rfl]; exact b1, by rw [F0.2.1 33 rfl]; exact b2, by rw [F0.2.1 36 rfl]; exact b3, ⟨by rw [F0.2.1 42 rfl]; exact c1.1, c1.2⟩, ⟨by rw [F0.2.1 41 rfl]; exact c2.1, c2.2⟩⟩, by rw [F0.2.1 40 rfl]; exact b4, c_put_same, by omega⟩
  have hfam := e_Fall κ nc 100 0 d (by omega) (by omega) (by omega) C L 0 W t S y1 y2 ky1 ky2 k1 k2 a1 a2 Γ1 Γ2 τ1 τ2 l1 l2 _ hv0 (v0.K g1) o1 f1 o2 f2 (v0.Y hY1) (v0.Y hY2) (v0.W hW1 (Nat.le_refl _) (Nat.le_refl _) (Nat.le_refl _) (Nat.le_refl _)) (v0.W hW2 (Nat.le_refl _) (Nat.le_refl _) (Nat.le_refl _) (Nat.le_refl _)) hy1 hy2 ⟨by omega, by omega, by omega, by omega⟩
  refine k_bd hfam (fun s1 x1 gg => k_some ?_)
  obtain ⟨ex, C', L', B', W', t', S', ⟨⟨u1, u2, u3, u4, u5⟩, v1, v2, v3⟩, ⟨n1, n2, n3, n4, n5, n6, -⟩, ans⟩ := gg
  have F2 : z_F [] [30, 33, 36, 40] [] s1 (c_put (c_put (c_put (c_put s1 34 30 (s.1 34 30)) 34 33 (s.1 34 33)) 34 36 (s.1 34 36)) 34 40 (s.1 34 40)) := z_F.puf (z_F.puf (z_F.puf (z_F.puf z_F.rf rfl) rfl) rfl) rfl
  have w30 : (c_put (c_put (c_put (c_put s1 34 30 (s.1 34 30)) 34 33 (s.1 34 33)) 34 36 (s.1 34 36)) 34 40 (s.1 34 40)).1 34 30 = nI C := by rw [c_put_get, if_neg (by decide), c_put_get, if_neg (by decide), c_put_get, if_neg (by decide), c_put_same]; exact b1
  have w33 : (c_put (c_put (c_put (c_put s1 34 30 (s.1 34 30)) 34 33 (s.1 34 33)) 34 36 (s.1 34 36)) 34 40 (s.1 34 40)).1 34 33 = nI L := by rw [c_put_get, if_neg (by decide), c_put_get, if_neg (by decide), c_put_same]; exact b2
  have w36 : (c_put (c_put (c_put (c_put s1 34 30 (s.1 34 30)) 34 33 (s.1 34 33)) 34 36 (s.1 34 36)) 34 40 (s.1 34 40)).1 34 36 = 0 := by rw [c_put_get, if_neg (by decide), c_put_same]; exact b3
  have w40 : (c_put (c_put (c_put (c_put s1 34 30 (s.1 34 30)) 34 33 (s.1 34 33)) 34 36 (s.1 34 36)) 34 40 (s.1 34 40)).1 34 40 = nI W := by rw [c_put_same]; exact b4
  generalize c_put (c_put (c_put (c_put s1 34 30 (s.1 34 30)) 34 33 (s.1 34 33)) 34 36 (s.1 34 36)) 34 40 (s.1 34 40) = s2 at F2 w30 w33 w36 w40 ⊢
  have vv := v0.tr ex (Nat.le_refl _) (Nat.le_refl _) (Nat.le_refl _) (Nat.le_refl _)
  have X : ∀ lo n, h_ex lo n C L W T R Γ.length s s2 := fun lo n => (vv.h).tr (h_ex.fld (z_F.mono F2 rfl)) (Nat.le_refl _) (Nat.le_refl _) (Nat.le_refl _) (Nat.le_refl _) (Nat.le_refl _) (Nat.le_refl _)
  have w17 : s2.1 34 17 = nI T := by rw [F2.2.1 17 rfl, vv.1.2.1 17 rfl]; exact e1
  refine ⟨X, ⟨t', S', n5, hs.to (X 0 0) (Nat.le_refl _) (Nat.le_refl _) (Nat.le_refl _) (by omega) (by rw [F2.2.1 9 rfl, vv.1.2.1 9 rfl]; exact q2) w30 w33 w36 w40 (by rw [F2.2.1 42 rfl]; exact u4.1) u4.2 (by rw [F2.2.1 41 rfl]; exact u5.1) u5.2 w17 e2 (by rw [F2.2.1 59 rfl, vv.1.2.1 59 rfl]; exact r1)⟩, fun h1 => ?_⟩
  rcases ans with ⟨-, h2⟩ | ⟨h2, -⟩
  · exact h2.1
  · exact absurd h1 h2
/-- the end of equal -/
theorem rr_194 (d : Nat) {κ : Nat → Std.Format} {nc m M j : Nat} (hm : m ≤ M) (hM : M ≤ 48 * j) (i6 : Int32) (s0 s : c_S) (c : ∀ b, b < 34 → s.1 b = s0.1 b) (h2 : s.1 34 2 = 0) (hW : rr_W κ nc m s) : k_ok (b_Rm_equal_194 (c_M d) (nI m) i6 s) (fun σ _ => rr_Q j s0 σ) := by
  have f : z_F [] [16] [] s (c_put s 34 16 (nI m)) := z_F.puf z_F.rf rfl
  have q : rr_Q j s0 (c_put s 34 16 (nI m)) := rr_Q.mk (fun b hb => (rr_C.of f rfl b hb).trans (c b hb)) (by rw [f.2.1 2 rfl]; exact h2) hm hM c_put_same (hW.fld f rfl)
  have q9 : ∀ x : Int32, rr_Q j s0 (c_put (c_put s 34 16 (nI m)) 34 9 x) := fun x => by
    have f9 : z_F [] [9, 16] [] s (c_put (c_put s 34 16 (nI m)) 34 9 x) := z_F.puf (z_F.puf z_F.rf rfl) rfl
    exact rr_Q.mk (fun b hb => (rr_C.of f9 rfl b hb).trans (c b hb)) (by rw [f9.2.1 2 rfl]; exact h2) hm hM (by rw [c_put_get, if_neg (by decide), c_put_same]) (hW.fld f9 rfl)
  rw [e_Rm_equal_194]
  exact k_if (fun _ => k_if (fun _ => k_if (fun _ => k_some (q9 _)) (fun _ => k_some (q9 _))) (fun _ => k_if (fun _ => k_some q) (fun _ => k_some q))) (fun _ => k_if (fun _ => k_some q) (fun _ => k_some q))
theorem rr_110D (d : Nat) {κ : Nat → Std.Format} {nc m M j : Nat} (hm : m ≤ M) (hM : M ≤ 48 * j) (i2 i3 i4 i5 : Int32) (s0 s : c_S) (c : ∀ b, b < 34 → s.1 b = s0.1 b) (h2 : s.1 34 2 = 0) (hW : rr_W κ nc m s) (D : ¬ s.1 34 9 = 0) : k_ok (b_Rm_equal_110 (c_M d) (nI m) i2 i3 i4 i5 s) (fun σ _ => rr_Q j s0 σ) := by
  rw [e_Rm_equal_110, if_neg D, e_Rm_equal_152, if_neg D]
  exact rr_194 d hm hM _ s0 s c h2 hW
theorem rr_86D (d : Nat) {κ : Nat → Std.Format} {nc m M j : Nat} (hm : m ≤ M) (hM : M ≤ 48 * j) (i2 i3 : Int32) (s0 s : c_S) (c : ∀ b, b < 34 → s.1 b = s0.1 b) (h2 : s.1 34 2 = 0) (hW : rr_W κ nc m s) (D : ¬ s.1 34 9 = 0) : k_ok (b_Rm_equal_86 (c_M d) (nI m) i2 i3 s) (fun σ _ => rr_Q j s0 σ) := by
  rw [e_Rm_equal_86, if_neg D]
  exact rr_110D d hm hM i2 i3 _ _ s0 s c h2 hW D
theorem rr_69D (d : Nat) {κ : Nat → Std.Format} {nc m M j : Nat} (hm : m ≤ M) (hM : M ≤ 48 * j) (i2 i3 : Int32) (s0 s : c_S) (c : ∀ b, b < 34 → s.1 b = s0.1 b) (h2 : s.1 34 2 = 0) (hW : rr_W κ nc m s) (D : ¬ s.1 34 9 = 0) : k_ok (b_Rm_equal_69 (c_M d) (nI m) i2 i3 s) (fun σ _ => rr_Q j s0 σ) := by
  have f : z_F [] [59] [] s (c_put s 34 59 0) := z_F.puf z_F.rf rfl
  rw [e_Rm_equal_69, if_neg D]
  exact rr_86D d hm hM i2 i3 s0 _ (fun b hb => (rr_C.of f rfl b hb).trans (c b hb)) (by rw [f.2.1 2 rfl]; exact h2) (hW.fld f rfl) (by rw [f.2.1 9 rfl]; exact D)
theorem rr_40D (d : Nat) {κ : Nat → Std.Format} {nc m M j : Nat} (hm : m ≤ M) (hM : M ≤ 48 * j) (i2 i3 : Int32) (s0 s : c_S) (c : ∀ b, b < 34 → s.1 b = s0.1 b) (h2 : s.1 34 2 = 0) (hW : rr_W κ nc m s) (D : ¬ s.1 34 9 = 0) : k_ok (b_Rm_equal_40 (c_M d) (nI m) i2 i3 s) (fun σ _ => rr_Q j s0 σ) := by
  rw [e_Rm_equal_40, if_neg D]
  exact rr_69D d hm hM i2 i3 s0 s c h2 hW D
set_option maxHeartbeats 1000000 in
/-- both objects are read: they are checked, and asked -/
theorem rr_69 (d : Nat) (hd : 770 ≤ d) {κ : Nat → Std.Format} {nc m m1 m2 M N a j S n1 n2 k1 k2 w1 w2 : Nat} (hm : m ≤ M) (hM : M ≤ 48 * j) (hj : j ≤ 512) (s0 s : c_S) (c : ∀ b, b < 34 → s.1 b = s0.1 b) (h2 : s.1 34 2 = 0) (hW : rr_W κ nc m s) (hL : rr_L N M m2 a s) (hc : rr_c 0 0 0 0 S s) (e17 : s.1 34 17 = nI 120000) (t1 : x_T s m k1 82 38 w1 n1) (t2 : x_T s m1 k2 82 38 w2 n2) (hn1 : n1 < m1) (hn2 : n2 < m2) (hw1 : w1 ≤ 600) (hw2 : w2 ≤ 600) (hm2 : m2 ≤ m + 8000) : k_ok (b_Rm_equal_69 (c_M d) (nI m) (nI n1) (nI n2) s) (fun σ _ => rr_Q j s0 σ) := by
  have l1 := x_T_lo t1
  have l2 := x_T_lo t2
  rw [e_Rm_equal_69, if_pos hL.2.2.1]
  have f2 : z_F [] [59] [] s (c_put s 34 59 0) := z_F.puf z_F.rf rfl
  have L2 : rr_L N M m2 a (c_put s 34 59 0) := hL.fld f2 rfl rfl rfl
  have W2 := hW.fld f2 rfl
  have c2 := hc.fld f2 rfl
  have e172 : (c_put s 34 59 0).1 34 17 = nI 120000 := by rw [f2.2.1 17 rfl]; exact e17
  have t12 : x_T (c_put s 34 59 0) m k1 82 38 w1 n1 := x_T_old (x_old.of f2 rfl (T := n1 + 1)) k1 82 38 w1 n1 (by omega) t1
  have t22 : x_T (c_put s 34 59 0) m1 k2 82 38 w2 n2 := x_T_old (x_old.of f2 rfl (T := n2 + 1)) k2 82 38 w2 n2 (by omega) t2
  have e59 : (c_put s 34 59 0).1 34 59 = nI 0 := c_put_same
  have cc2 : ∀ b, b < 34 → (c_put s 34 59 0).1 b = s0.1 b := fun b hb => (rr_C.of f2 rfl b hb).trans (c b hb)
  have tt2 : (c_put s 34 59 0).1 34 2 = 0 := by rw [f2.2.1 2 rfl]; exact h2
  generalize c_put s 34 59 0 = s2 at f2 L2 W2 c2 e172 t12 t22 e59 cc2 tt2 ⊢
  refine k_bd (rr_obj d (by omega) s2 L2 W2 c2 e172 e59 (by omega) m t12 hw1 (by omega) (by omega) (by omega)) (fun s3 x3 g3 => ?_)
  obtain ⟨X3, g3⟩ := g3
  have cc3 : ∀ b, b < 34 → s3.1 b = s0.1 b := fun b hb => (X3.Yy.1 b hb).trans (cc2 b hb)
  have tt3 : s3.1 34 2 = 0 := X3.Yy.2.trans tt2
  rcases g3 with D3 | ⟨C3, L3, W3, t3, S3, T3, y3, τ3, h3, -, cC, cL, cT, -, ⟨ka, hOa⟩, hok3, hfin3, ⟨na, Γa, k3, ky, is1, is2, is3⟩, -, hy3⟩
  · exact rr_86D d hm hM _ _ s0 s3 cc3 tt3 (W2.ck X3 D3.2.1) (x_gt D3.1)
  have W3w := W2.ck X3 ⟨S3, h3.2.2.2.1.2, h3.2.2.2.1.1⟩
  have hT3 := h3.2.2.2.2.1
  rw [e_Rm_equal_86, if_pos h3.1.2.1, is1]
  have t23 : x_T s3 m1 k2 82 38 w2 n2 := X3.1.T (by omega) t22 (by omega)
  refine k_bd ((h_all κ nc M 82 d (by omega)).1 C3 L3 W3 t3 S3 T3 0 m1 k2 38 w2 n2 [] s3 ⟨h3, t23, by simp, by omega, by omega, by omega, by omega⟩) (fun s4 x4 g4 => ?_)
  obtain ⟨X4, g4⟩ := g4
  have cc4 : ∀ b, b < 34 → s4.1 b = s0.1 b := fun b hb => (X4.Yy.1 b hb).trans (cc3 b hb)
  have tt4 : s4.1 34 2 = 0 := X4.Yy.2.trans tt3
  rcases g4 with D4 | ⟨C4, L4, W4, t4, S4, T4, y4, τ4, h4, ⟨p1, p2, p3, p4, p5⟩, dC, dL, dT, -, ⟨kb, hOb⟩, hok4, hfin4, ⟨nb, Γb, kb3, kyb, ib1, ib2, ib3⟩, -, hy4⟩
  · exact rr_110D d hm hM _ _ _ _ s0 s4 cc4 tt4 (W3w.ck X4 D4.2.1) (x_gt D4.1)
  have W4w := W3w.ck X4 ⟨S4, h4.2.2.2.1.2, h4.2.2.2.1.1⟩
  rw [e_Rm_equal_110, if_pos h4.1.2.1, ib1]
  have is24 : o_Y s4 κ nc ky y3 Γa na τ3 := X4.1.Y (by omega) hT3.1 h4.2.2.2.2.1.1 p4 h4.2.2.2.2.1.2.2 ky y3 Γa na τ3 is2
  have is34 : w_W s4 κ nc C4 L4 W4 k3 (.inr (s3.1 34 61)) Γa := X4.1.W is3 (Nat.le_refl _) p1 p2 p3
  refine k_bd (h_eqF d (by omega) na nb y3 y4 ky kyb k3 kb3 Γa Γb τ3 τ4 _ _ s4 h4 (by omega) (by omega) (by omega) (by omega) hok3 hfin3 hok4 hfin4 is24 ib2 is34 ib3) (fun s5 x5 g5 => ?_)
  obtain ⟨X5, ⟨t5, S5, ht5, h5⟩, heq⟩ := g5
  have W5w := W4w.ck (X5 0 0) ⟨S5, h5.2.2.2.1.2, h5.2.2.2.1.1⟩
  have cc5 : ∀ b, b < 34 → s5.1 b = s0.1 b := fun b hb => ((X5 0 0).Yy.1 b hb).trans (cc4 b hb)
  have tt5 : s5.1 34 2 = 0 := (X5 0 0).Yy.2.trans tt4
  have end152 : ∀ i6 : Int32, ¬ i6 = 1 → k_ok (b_Rm_equal_152 (c_M d) (nI m) (nI n1) (nI n2) (nI na) (s3.1 34 61) i6 s5) (fun σ _ => rr_Q j s0 σ) := fun i6 h6 => by
    rw [e_Rm_equal_152, if_pos h5.1.2.1, if_neg h6]
    exact rr_194 d hm hM _ s0 s5 cc5 tt5 W5w
  refine k_if (fun _ => end152 (-2) (by decide)) (fun _ => ?_)
  by_cases h1 : x5 = 1
  · subst h1
    have heq := heq rfl
    subst heq
    rw [e_Rm_equal_152, if_pos h5.1.2.1, if_pos rfl]
    obtain ⟨-, ⟨b1, b2, b3, b4, b5⟩, b6, b7, ⟨b8, b9⟩, -, ⟨hK5, -, -⟩, -⟩ := id h5
    have F : z_F [] [53] [] s5 (c_put s5 34 53 0) := z_F.puf z_F.rf rfl
    have v6 : v_ex C4 L4 0 W4 s5 (c_put s5 34 53 0) := v_fld (z_F.mono F rfl)
    have hv6 : v_S C4 L4 0 W4 t5 S5 0 (c_put s5 34 53 0) := ⟨⟨by rw [F.2.1 30 rfl]; exact b1, by rw [F.2.1 33 rfl]; exact b2, by rw [F.2.1 36 rfl]; exact b3, ⟨by rw [F.2.1 42 rfl]; exact b6.1, b6.2⟩, ⟨by rw [F.2.1 41 rfl]; exact b7.1, b7.2⟩⟩, by rw [F.2.1 40 rfl]; exact b4, c_put_same, by omega⟩
    generalize c_put s5 34 53 0 = s6 at F v6 hv6 ⊢
    obtain ⟨s7, es7, f7, m71, m72, m73, m74⟩ := w_closure d (by omega) (nI n1) (-1) s6 C4 (by omega) hv6.1.1
    rw [es7, c_bd_some]
    obtain ⟨s8, es8, f8, m81, m82, m83, m84⟩ := w_closure d (by omega) (nI n2) (-1) s7 (C4 + 1) (by omega) m71
    rw [es8, c_bd_some]
    have F68 : z_F [53, 54] [30] [] s6 s8 := z_F.tr (z_F.mono f7 rfl) (z_F.mono f8 rfl)
    have v8 : v_ex C4 L4 0 W4 s6 s8 := ⟨z_F.mono F68 rfl, ⟨o_ag.of F68 rfl, fun h hh => ⟨((m84 h (by omega)).1).trans (m74 h hh).1, ((m84 h (by omega)).2).trans (m74 h hh).2⟩, fun h _ => by rw [F68.1 55 rfl (by decide), F68.1 56 rfl (by decide)]; exact ⟨rfl, rfl⟩, fun h _ => by rw [F68.1 59 rfl (by decide), F68.1 60 rfl (by decide)]; exact ⟨rfl, rfl⟩⟩, fun i hi => absurd hi (by omega)⟩
    have hv8 : v_S (C4 + 2) L4 0 W4 t5 S5 0 s8 := ⟨⟨m81, by rw [F68.2.1 33 rfl]; exact hv6.1.2.1, by rw [F68.2.1 36 rfl]; exact hv6.1.2.2.1, ⟨by rw [F68.2.1 42 rfl]; exact hv6.1.2.2.2.1.1, hv6.1.2.2.2.1.2⟩, ⟨by rw [F68.2.1 41 rfl]; exact hv6.1.2.2.2.2.1, hv6.1.2.2.2.2.2⟩⟩, by rw [F68.2.1 40 rfl]; exact hv6.2.1, by rw [F68.2.1 53 rfl]; exact hv6.2.2.1, by omega⟩
    have v58 : v_ex C4 L4 0 W4 s5 s8 := v6.tr v8 (Nat.le_refl _) (Nat.le_refl _) (Nat.le_refl _) (Nat.le_refl _)
    have O1 : o_T s8 κ nc ka 38 [] n1 τ3 := o_T_ag v58.2.1.1 ka 38 [] n1 τ3 ((X5 0 0).1.O (X4.1.O hOa))
    have O2 : o_T s8 κ nc kb 38 [] n2 τ3 := o_T_ag v58.2.1.1 kb 38 [] n2 τ3 ((X5 0 0).1.O hOb)
    have hK8 := v58.K hK5
    have hn76 := o_T_ok (fun c hc => (hK8.2 c hc).1) ka 38 [] n1 τ3 (fun x hx => absurd hx (by simp)) O1
    have cl1 : w_W s8 κ nc (C4 + 2) L4 W4 2 (.inl C4) [f_l [] τ3] := ⟨by omega, Or.inl ⟨τ3, n1, [], rfl, (m84 C4 (by omega)).1.trans m72, ⟨ka, 38, by omega, O1⟩, (m84 C4 (by omega)).2.trans m73⟩⟩
    have cl2 : w_W s8 κ nc (C4 + 2) L4 W4 2 (.inl (C4 + 1)) [f_l [] τ3] := ⟨by omega, Or.inl ⟨τ3, n2, [], rfl, m82, ⟨kb, 38, by omega, O2⟩, m83⟩⟩
    have Y8 : o_Y s8 κ nc ky y3 Γa na τ3 := v58.Y ((X5 0 0).1.Y (by omega) h4.2.2.2.2.1.1 h5.2.2.2.2.1.1 (Nat.le_refl _) h4.2.2.2.2.1.2.2 ky y3 Γa na τ3 is24)
    have WW8 : w_W s8 κ nc (C4 + 2) L4 W4 k3 (.inr (s3.1 34 61)) Γa := v58.W ((X5 0 0).1.W is34 (Nat.le_refl _) (Nat.le_refl _) (Nat.le_refl _) (Nat.le_refl _)) (Nat.le_refl _) (by omega) (Nat.le_refl _) (Nat.le_refl _)
    refine k_bd (e_all κ nc 100 0 d (by omega) (by omega) (by omega) (C4 + 2) L4 0 W4 t5 S5 y3 ky k3 na C4 (C4 + 1) 2 2 Γa [] τ3 _ (-1) (-1) s8 hv8 hK8 hok3 hfin3 Y8 WW8 rfl rfl cl1 cl2 (by simpa using (by omega : f_n τ3 ≤ 76)) (by omega) ⟨by omega, by omega, by omega, by omega⟩) (fun s9 x9 g9 => ?_)
    obtain ⟨ex9, C', L', B', W', t', S', hv9, -⟩ := g9
    have n59 : n_ex C4 L4 0 W4 s5 s9 := v58.n.tr ex9.n (by omega) (Nat.le_refl _) (Nat.le_refl _) (Nat.le_refl _)
    exact rr_194 d hm hM _ s0 s9 (fun b hb => (rr_C.of n59.1 rfl b hb).trans (cc5 b hb)) (by rw [n59.1.2.1 2 rfl]; exact tt5) (W5w.tl n59 ⟨S', hv9.1.2.2.2.2.2, hv9.1.2.2.2.2.1⟩)
  · exact end152 x5 h1
set_option maxHeartbeats 1000000 in
theorem rr_equal (d : Nat) (hd : 780 ≤ d) (j : Nat) (hj : j ≤ 512) (s : c_S) (h : rr_I j s) : k_ok (c_M d 95 [v_r 34] s) (fun σ _ => rr_Q j s σ) := by
  obtain ⟨d, rfl⟩ : ∃ e, d = e + 1 := ⟨d - 1, by omega⟩
  obtain ⟨T0, κ, nc, m, hT, e2, hm, e16, hW⟩ := h
  have f0 : z_F [] [0] [] s (c_put s 34 0 0) := z_F.puf z_F.rf rfl
  rw [m_Rm_equal, e_Rm_equal_0]
  refine k_bd (rr_begins d (by omega) _ (rr_put0 hW) hT (by rw [f0.2.1 2 rfl]; exact e2) (by rw [f0.2.1 16 rfl]; exact e16) (by omega)) (fun s1 x1 g1 => ?_)
  obtain ⟨c1, t1, e17, N, S, h1⟩ := g1
  have cc1 : ∀ b, b < 34 → s1.1 b = s.1 b := fun b hb => (c1 b hb).trans (rr_C.of f0 rfl b hb)
  have hmM : m ≤ m + 2 * T0 := by omega
  obtain ⟨hL, hW1, q1, q2, q3, q4, -, -⟩ := h1
  have hc1 : rr_c 0 0 0 0 S s1 := ⟨q1, q2, q3, q4⟩
  have hN := hL.2.1
  rw [hL.2.2.2.1]
  refine k_bd (rr_rw d (by omega) s1 hL) (fun s2 x2 g2 => ?_)
  obtain ⟨f2, o2, g2⟩ := g2
  have cc2 : ∀ b, b < 34 → s2.1 b = s.1 b := fun b hb => (rr_C.of f2 rfl b hb).trans (cc1 b hb)
  have tt2 : s2.1 34 2 = 0 := by rw [f2.2.1 2 rfl]; exact t1
  rcases g2 with D2 | ⟨m1, a1, n1, w1, k1, L2, rfl, hn1, a13, pot, tr1, hw1⟩
  · rw [x_takeD d (by omega) _ s2 D2, c_bd_some, if_neg (x_gt D2), e_Rm_equal_39]
    exact rr_40D d hmM hm _ _ s s2 cc2 tt2 (hW1.rd f2 o2.o D2.1) (x_gt D2)
  have W2 := hW1.rd f2 o2.o L2.1
  have hc2 := hc1.fld f2 rfl
  have l1 := x_T_lo tr1
  refine k_bd (rr_take d (by omega) _ s2 L2) (fun s3 x3 g3 => ?_)
  obtain ⟨f3, g3⟩ := g3
  have cc3 : ∀ b, b < 34 → s3.1 b = s.1 b := fun b hb => (rr_C.of f3 rfl b hb).trans (cc2 b hb)
  have tt3 : s3.1 34 2 = 0 := by rw [f3.2.1 2 rfl]; exact tt2
  have W3 := W2.fld f3 rfl
  have hc3 := hc2.fld f3 rfl
  rcases g3 with D3 | ⟨haN, L3⟩
  · rw [if_neg (x_gt D3), e_Rm_equal_39]
    exact rr_40D d hmM hm _ _ s s3 cc3 tt3 W3 (x_gt D3)
  rw [if_pos L3.2.2.1, e_Rm_equal_32]
  refine k_bd (rr_rw d (by omega) s3 L3) (fun s4 x4 g4 => ?_)
  obtain ⟨f4, o4, g4⟩ := g4
  have cc4 : ∀ b, b < 34 → s4.1 b = s.1 b := fun b hb => (rr_C.of f4 rfl b hb).trans (cc3 b hb)
  have tt4 : s4.1 34 2 = 0 := by rw [f4.2.1 2 rfl]; exact tt3
  rcases g4 with D4 | ⟨m2, a2, n2, w2, k2, L4, rfl, hn2, a23, pot2, tr2, hw2⟩
  · exact rr_40D d hmM hm _ _ s s4 cc4 tt4 (W3.rd f4 ((o4.o).le (by omega)) D4.1) (x_gt D4)
  have W4 := W3.rd f4 ((o4.o).le (by omega)) L4.1
  have hc4 := hc3.fld f4 rfl
  have ha4 := L4.2.2.2.2
  have tr14 : x_T s4 m k1 82 38 w1 n1 := x_T_old ((x_old.of f3 rfl (T := n1 + 1)).tr (o4.le (by omega))) k1 82 38 w1 n1 (by omega) tr1
  rw [e_Rm_equal_40, if_pos L4.2.2.1, ha4.1, c_rg_nI (by omega) (by decide), nI_clamp (show a2 < 2 ^ 31 by omega)]
  refine k_if (fun _ => ?_) (fun _ => ?_)
  · exact rr_69 d (by omega) hmM hm hj s s4 cc4 tt4 W4 L4 hc4 (by rw [f4.2.1 17 rfl, f3.2.1 17 rfl, f2.2.1 17 rfl]; exact e17) tr14 tr2 hn1 hn2 hw1 hw2 (by omega)
  · refine k_bd (rr_wrongL d (by omega) 1 (by decide) s4 L4) (fun s5 x5 g5 => ?_)
    exact rr_69D d hmM hm _ _ s s5 (fun b hb => (rr_C.of g5.1 rfl b hb).trans (cc4 b hb)) (by rw [g5.1.2.1 2 rfl]; exact tt4) (W4.fld g5.1 rfl) (x_gt g5.2)
