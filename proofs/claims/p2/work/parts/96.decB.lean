theorem rr_ar {C C3 C4 m m1 m2 y n2 w1 w2 N a a2 y4 : Nat} (h1 : C3 + m ≤ C + (38 + 2) * w1 + y + 1) (h2 : C4 + y4 + m1 ≤ C3 + (38 + 2) * w2 + n2 + 1) (l1 : 2 * w1 + m ≤ y) (l2 : 2 * w2 + m1 ≤ n2) (hn2 : n2 < m2) (hy : y < m1) (hm : m2 + 2 * (N - a2) ≤ m + 2 * (N - a)) (b : C + 42 * (N - a) ≤ 168000) : C4 + 42 * (N - (a2 + 1)) ≤ 168000 := by
  have e : N - (a2 + 1) ≤ N - a2 := by omega
  generalize N - (a2 + 1) = p at *
  generalize N - a2 = q at *
  generalize N - a = r at *
  omega
set_option maxHeartbeats 400000 in
/-- what is read is checked -/
theorem rr_138 (d : Nat) (hd : 760 ≤ d) {κ : Nat → Std.Format} {nc m m1 m2 M N a a2 ia p y w1 k1 C L W t S : Nat} (i3 i5 : Int32) (s0 s : c_S) (Y : rr_Y s0 s) (hL : rr_L N M m2 a2 s) (hW : rr_W κ nc m s) (e52 : s.1 52 nc = nI m) (hnc : nc < 100) (hia : ia < 4002) (hp : p < 4002) (ha : a < a2) (hy : y < m1) (h12 : m1 ≤ m2) (ty : x_T s m k1 82 38 w1 y) (hw1 : w1 ≤ 600) (hm2 : m2 + 2 * (N - a2) ≤ m + 2 * (N - a)) (hi : (i5 = 0 ∧ i3 = -1) ∨ (¬ i5 = 0 ∧ ∃ n2 k2 w2, i3 = nI n2 ∧ n2 < m2 ∧ w2 ≤ 600 ∧ x_T s m1 k2 82 38 w2 n2)) (hc : rr_c C L W t S s) (bC : C + 42 * (N - a) ≤ 168000) (bL : L + 42 * (N - a) ≤ 168000) : k_ok (b_Rm_declaration_138 (c_M d) (nI ia) (nI y) i3 (nI p) i5 s) (fun σ _ => rr_P M N a s0 σ) := by
  have hmM : m ≤ M := by have := hL.2.2.2.2; have := x_T_lo ty; omega
  rw [e_Rm_declaration_138]
  refine k_bd (rr_take d (by omega) _ s hL) (fun s1 x1 g1 => ?_)
  obtain ⟨f1, g1⟩ := g1
  have Y1 := Y.tr (rr_Y.of f1 rfl)
  have W1 : rr_W κ nc m s1 := hW.fld f1 rfl
  have e521 : s1.1 52 nc = nI m := by rw [f1.1 52 rfl (by decide)]; exact e52
  have f2 : z_F [] [17, 59] [] s1 (c_put (c_put s1 34 17 120000) 34 59 0) := z_F.puf (z_F.puf z_F.rf rfl) rfl
  rcases g1 with D1 | ⟨haN, L1⟩
  · rw [if_neg (x_gt D1)]
    exact rr_177D d hmM _ _ _ _ _ s0 _ (Y1.tr (rr_Y.of f2 rfl)) (rr_E.fld ⟨D1, W1, e521⟩ f2 rfl rfl)
  rw [if_pos L1.2.2.1]
  have L2 : rr_L N M m2 (a2 + 1) (c_put (c_put s1 34 17 120000) 34 59 0) := L1.fld f2 rfl rfl rfl
  have W2 := W1.fld f2 rfl
  have e522 : (c_put (c_put s1 34 17 120000) 34 59 0).1 52 nc = nI m := by rw [f2.1 52 rfl (by decide)]; exact e521
  have c2 : rr_c C L W t S (c_put (c_put s1 34 17 120000) 34 59 0) := (hc.fld f1 rfl).fld f2 rfl
  have e17 : (c_put (c_put s1 34 17 120000) 34 59 0).1 34 17 = nI 120000 := by rw [c_put_get, if_neg (by decide), c_put_same]; rfl
  have e59 : (c_put (c_put s1 34 17 120000) 34 59 0).1 34 59 = nI 0 := c_put_same
  have Y2 := Y1.tr (rr_Y.of f2 rfl)
  have f12 : z_F [] [8, 9, 17, 59] [] s (c_put (c_put s1 34 17 120000) 34 59 0) := z_F.tr (z_F.mono f1 rfl) (z_F.mono f2 rfl)
  generalize c_put (c_put s1 34 17 120000) 34 59 0 = s2 at f2 L2 W2 e522 c2 e17 e59 Y2 f12 ⊢
  have ty2 : x_T s2 m k1 82 38 w1 y := x_T_old (x_old.of f12 rfl (T := y + 1)) k1 82 38 w1 y (by omega) ty
  have ly := x_T_lo ty
  have hm2M := L2.2.2.2.2
  have hN := L2.2.1
  have hS2 : h_S κ nc M C L W t S 120000 0 [] s2 := ⟨⟨L2.1, L2.2.2.1, m2, by omega, L2.2.2.2.1⟩, c2.1, c2.2.1, c2.2.2.1, ⟨e17, by omega, by omega⟩, e59, ⟨W2.1.w, W2.1.2.2.2.1, W2.2.1⟩, c2.2.2.2.2, trivial, 1, c2.2.2.2.1⟩
  have hmm2 : m ≤ m2 := by omega
  have ha3 : a < a2 + 1 := by omega
  have hym2 : y < m2 := by omega
  -- the family, then the rest
  have fam : ∀ ok : Int32, (i5 = 0 ∨ ok = 0) → k_ok (c_bd (c_M d 68 [v_r 34, v_i (nI y), v_i ok] s2) fun s3 _ => b_Rm_declaration_177 (c_M d) (nI ia) (nI y) i3 (nI p) i5 s3) (fun σ _ => rr_P M N a s0 σ) := by
    intro ok hok
    refine k_bd ((h_all κ nc M 82 d (by omega)).2 C L W t S 120000 0 m k1 38 w1 y [] ok s2 ⟨hS2, ty2, by simp, by omega, by omega, by omega, by omega⟩) (fun s3 x3 g3 => ?_)
    obtain ⟨X3, D3 | ⟨C3, L3, W3, t3, S3, T3, τ, h3, ⟨n1, n2, n3, n4, n5⟩, cC, cL, cT, cW, ⟨kk, hF⟩, hfin⟩⟩ := g3
    · exact rr_177D d hmM _ _ _ _ _ s0 s3 (Y2.tr X3.Yy) (rr_E.ck W2 e522 X3 D3)
    have W3w := W2.ck X3 ⟨S3, h3.2.2.2.1.2, h3.2.2.2.1.1⟩
    have e523 : s3.1 52 nc = nI m := by rw [X3.1.1.1 52 rfl (by decide)]; exact e522
    have L3r := L2.ck X3 h3.1.2.1
    rw [e_Rm_declaration_177, if_pos h3.1.2.1]
    rcases hi with ⟨e5, e3⟩ | ⟨e5, nn2, k2, w2, e3, hn2, hw2, t2⟩
    · rw [if_pos e5]
      exact rr_220 d i3 s0 s3 (Y2.tr X3.Yy) L3r W3w e523 hnc (by omega) hia (by omega) hF (by omega) (Or.inl e3) (h3.c (X3.2.1.trans c2.2.2.2.1)) (by omega) (by omega)
    · have hfin := hfin (by rcases hok with h | h; exact absurd h e5; exact h)
      rw [if_neg e5, e3]
      have ln := x_T_lo t2
      have t22 : x_T s2 m1 k2 82 38 w2 nn2 := x_T_old (x_old.of f12 rfl (T := nn2 + 1)) k2 82 38 w2 nn2 (by omega) t2
      have t23 : x_T s3 m1 k2 82 38 w2 nn2 := X3.1.T (by omega) t22 (by omega)
      refine k_bd ((h_all κ nc M 82 d (by omega)).1 C3 L3 W3 t3 S3 T3 0 m1 k2 38 w2 nn2 [] s3 ⟨h3, t23, by simp, by omega, by omega, by omega, by omega⟩) (fun s4 x4 g4 => ?_)
      obtain ⟨X4, D4 | ⟨C4, L4, W4, t4, S4, T4, y4, τ4, h4, ⟨p1, p2, p3, p4, p5⟩, dC, dL, dT, dW, ⟨kb, hOb⟩, hokb, hfinb, ⟨nb, Γb, kb3, kyb, ib1, ib2, ib3⟩, -, hy4⟩⟩ := g4
      · have E4 := rr_E.ck W3w e523 X4 D4
        rw [if_neg (x_gt D4.1)]
        exact rr_220D d hmM _ _ _ s0 s4 (Y2.tr (X3.Yy.tr X4.Yy)) E4
      have W4w := W3w.ck X4 ⟨S4, h4.2.2.2.1.2, h4.2.2.2.1.1⟩
      have e524 : s4.1 52 nc = nI m := by rw [X4.1.1.1 52 rfl (by decide)]; exact e523
      have L4r := L3r.ck X4 h4.1.2.1
      have e544 : s4.1 34 54 = -1 := X4.2.1.trans (X3.2.1.trans c2.2.2.2.1)
      rw [if_pos h4.1.2.1, ib1, e544]
      refine k_bd (h_wanted d (by omega) nb y y4 0 kyb 1 kb3 1 p Γb [] τ4 τ _ (-1) hp s4 h4 (by omega) (by omega) (by omega) (by omega) (by omega) hokb hfinb (o_F_ok kk 38 [] y τ (Nat.le_refl _) hF).2 hfin ib2 (o_F_Y (Nat.le_refl _) (X4.1.F hF)) ib3 rfl) (fun s5 x5 g5 => ?_)
      obtain ⟨X5, -, ans5⟩ := g5
      have Y5 := Y2.tr (X3.Yy.tr (X4.Yy.tr (X5 0 0).Yy))
      rcases ans5 with D5 | ⟨rfl, t5, S5, ht5, h5⟩
      · exact rr_220D d hmM _ _ _ s0 s5 Y5 (rr_E.ck W4w e524 (X5 0 0) D5)
      have W5w := W4w.ck (X5 0 0) ⟨S5, h5.2.2.2.1.2, h5.2.2.2.1.1⟩
      have e525 : s5.1 52 nc = nI m := by rw [(X5 0 0).1.1.1 52 rfl (by decide)]; exact e524
      exact rr_220 d (nI nn2) s0 s5 Y5 (L4r.ck (X5 0 0) h5.1.2.1) W5w e525 hnc hmm2 hia ha3 ((X5 0 0).1.F (X4.1.F hF)) hym2 (Or.inr ⟨nn2, kb, rfl, hn2, (X5 0 0).1.O hOb⟩) (h5.c ((X5 0 0).2.1.trans e544)) (rr_ar cC dC ly.1 ln.1 hn2 hy hm2 bC) (rr_ar cL dL ly.1 ln.1 hn2 hy hm2 bL)
  refine k_if (fun h5 => fam 1 (Or.inl h5)) (fun h5 => fam 0 (Or.inr rfl))
