/-! the calls of the reference -/
def rr_I (j : Nat) (s : c_S) : Prop := ∃ T κ nc m, T ≤ 4000 ∧ s.1 34 2 = nI T ∧ m + 2 * T ≤ 48 * j ∧ s.1 34 16 = nI m ∧ rr_W κ nc m s
/-- what a call leaves that takes the TAPE -/
def rr_Q (j : Nat) (s σ : c_S) : Prop := (∀ b, b < 34 → σ.1 b = s.1 b) ∧ σ.1 34 2 = 0 ∧ rr_I (j + 1) σ
theorem rr_Q.mk {j m M nc : Nat} {κ : Nat → Std.Format} {s σ : c_S} (h : ∀ b, b < 34 → σ.1 b = s.1 b) (h2 : σ.1 34 2 = 0) (hm : m ≤ M) (hM : M ≤ 48 * j) (h16 : σ.1 34 16 = nI m) (hW : rr_W κ nc m σ) : rr_Q j s σ := ⟨h, h2, 0, κ, nc, m, by omega, h2, by omega, h16, hW⟩
set_option maxHeartbeats 1000000 in
theorem rr_begins (d : Nat) (hd : 4 ≤ d) {κ : Nat → Std.Format} {nc m T : Nat} (s : c_S) (hW : rr_W κ nc m s) (hT : T ≤ 4000) (e2 : s.1 34 2 = nI T) (e16 : s.1 34 16 = nI m) (hM : m + 2 * T ≤ 110000) : k_ok (c_M d 47 [v_r 34] s) (fun σ _ => (∀ b, b < 34 → σ.1 b = s.1 b) ∧ σ.1 34 2 = 0 ∧ σ.1 34 17 = nI 120000 ∧ ∃ N S, rr_S κ nc (m + 2 * T) N m 0 0 0 0 0 S σ) := by
  obtain ⟨d, rfl⟩ : ∃ e, d = e + 1 := ⟨d - 1, by omega⟩
  rw [m_Rm_begins, e_Rm_begins_0]
  have f : z_F [] [17, 30, 33, 36, 40, 42, 54, 55] [] s (c_put (c_put (c_put (c_put (c_put (c_put (c_put (c_put s 34 42 0) 34 30 0) 34 33 0) 34 36 0) 34 40 0) 34 54 (-1)) 34 55 0) 34 17 120000) := z_F.puf (z_F.puf (z_F.puf (z_F.puf (z_F.puf (z_F.puf (z_F.puf (z_F.puf z_F.rf rfl) rfl) rfl) rfl) rfl) rfl) rfl) rfl
  have q17 : (c_put (c_put (c_put (c_put (c_put (c_put (c_put (c_put s 34 42 0) 34 30 0) 34 33 0) 34 36 0) 34 40 0) 34 54 (-1)) 34 55 0) 34 17 120000).1 34 17 = nI 120000 := c_put_same
  have q55 : (c_put (c_put (c_put (c_put (c_put (c_put (c_put (c_put s 34 42 0) 34 30 0) 34 33 0) 34 36 0) 34 40 0) 34 54 (-1)) 34 55 0) 34 17 120000).1 34 55 = 0 := by rw [c_put_get, if_neg (by decide), c_put_same]
  have q54 : (c_put (c_put (c_put (c_put (c_put (c_put (c_put (c_put s 34 42 0) 34 30 0) 34 33 0) 34 36 0) 34 40 0) 34 54 (-1)) 34 55 0) 34 17 120000).1 34 54 = -1 := by rw [c_put_get, if_neg (by decide), c_put_get, if_neg (by decide), c_put_same]
  have q40 : (c_put (c_put (c_put (c_put (c_put (c_put (c_put (c_put s 34 42 0) 34 30 0) 34 33 0) 34 36 0) 34 40 0) 34 54 (-1)) 34 55 0) 34 17 120000).1 34 40 = 0 := by rw [c_put_get, if_neg (by decide), c_put_get, if_neg (by decide), c_put_get, if_neg (by decide), c_put_same]
  have q36 : (c_put (c_put (c_put (c_put (c_put (c_put (c_put (c_put s 34 42 0) 34 30 0) 34 33 0) 34 36 0) 34 40 0) 34 54 (-1)) 34 55 0) 34 17 120000).1 34 36 = 0 := by rw [c_put_get, if_neg (by decide), c_put_get, if_neg (by decide), c_put_get, if_neg (by decide), c_put_get, if_neg (by decide), c_put_same]
  have q33 : (c_put (c_put (c_put (c_put (c_put (c_put (c_put (c_put s 34 42 0) 34 30 0) 34 33 0) 34 36 0) 34 40 0) 34 54 (-1)) 34 55 0) 34 17 120000).1 34 33 = 0 := by rw [c_put_get, if_neg (by decide), c_put_get, if_neg (by decide), c_put_get, if_neg (by decide), c_put_get, if_neg (by decide), c_put_get, if_neg (by decide), c_put_same]
  have q30 : (c_put (c_put (c_put (c_put (c_put (c_put (c_put (c_put s 34 42 0) 34 30 0) 34 33 0) 34 36 0) 34 40 0) 34 54 (-1)) 34 55 0) 34 17 120000).1 34 30 = 0 := by rw [c_put_get, if_neg (by decide), c_put_get, if_neg (by decide), c_put_get, if_neg (by decide), c_put_get, if_neg (by decide), c_put_get, if_neg (by decide), c_put_get, if_neg (by decide), c_put_same]
  have q42 : (c_put (c_put (c_put (c_put (c_put (c_put (c_put (c_put s 34 42 0) 34 30 0) 34 33 0) 34 36 0) 34 40 0) 34 54 (-1)) 34 55 0) 34 17 120000).1 34 42 = 0 := by rw [c_put_get, if_neg (by decide), c_put_get, if_neg (by decide), c_put_get, if_neg (by decide), c_put_get, if_neg (by decide), c_put_get, if_neg (by decide), c_put_get, if_neg (by decide), c_put_get, if_neg (by decide), c_put_same]
  generalize c_put (c_put (c_put (c_put (c_put (c_put (c_put (c_put s 34 42 0) 34 30 0) 34 33 0) 34 36 0) 34 40 0) 34 54 (-1)) 34 55 0) 34 17 120000 = s1 at f q17 q55 q54 q40 q36 q33 q30 q42 ⊢
  have W1 := hW.fld f rfl
  obtain ⟨-, -, G1, t1, ⟨S, hS, eS⟩, -⟩ := id W1
  refine k_bd (rm_cutAll d (by omega) s1 T hT (by rw [f.2.1 2 rfl]; exact e2) G1.1 G1.2.1 t1) (fun σ r g => k_some ?_)
  obtain ⟨f2, z2, z3, z8, z9, ⟨N, hN, z36⟩, zp, zf⟩ := g
  have G2 : z_G σ := ⟨zp, zf, fun i => by rw [f2.1 43 rfl (by decide), f2.1 44 rfl (by decide), f2.1 45 rfl (by decide), f2.1 46 rfl (by decide)]; exact G1.2.2 i⟩
  have W2 : rr_W κ nc m σ := W1.mv (z_F.mono f2 rfl) (f2.o rfl) G2 ⟨S, hS, by rw [f2.2.1 41 rfl]; exact eS⟩
  refine ⟨fun b hb => (rr_C.of f2 rfl b hb).trans (rr_C.of f rfl b hb), z2, by rw [f2.2.1 17 rfl]; exact q17, N, S, ⟨G2, ⟨by omega, hM, z36⟩, z9, by rw [f2.2.1 16 rfl, f.2.1 16 rfl]; exact e16, z8, by omega, by omega⟩, W2, ⟨by rw [f2.2.1 30 rfl]; exact q30, by rw [f2.2.1 33 rfl]; exact q33, by rw [f2.2.1 36 rfl]; exact q36, by rw [f2.2.1 40 rfl]; exact q40, by omega⟩, ⟨by rw [f2.2.1 42 rfl]; exact q42, by omega⟩, ⟨by rw [f2.2.1 41 rfl]; exact eS, hS⟩, ⟨by rw [f2.2.1 54 rfl]; exact q54, by rw [f2.2.1 55 rfl]; exact q55⟩, by omega, by omega⟩
theorem rr_put0 {κ : Nat → Std.Format} {nc m : Nat} {s : c_S} (h : rr_W κ nc m s) : rr_W κ nc m (c_put s 34 0 0) := h.fld (z_F.puf z_F.rf rfl : z_F [] [0] [] s (c_put s 34 0 0)) rfl
theorem rr_declare (d : Nat) (hd : 770 ≤ d) (j : Nat) (hj : j ≤ 512) (s : c_S) (h : rr_I j s) : k_ok (c_M d 76 [v_r 34] s) (fun σ _ => rr_Q j s σ) := by
  obtain ⟨d, rfl⟩ : ∃ e, d = e + 1 := ⟨d - 1, by omega⟩
  obtain ⟨T, κ, nc, m, hT, e2, hm, e16, hW⟩ := h
  have f0 : z_F [] [0] [] s (c_put s 34 0 0) := z_F.puf z_F.rf rfl
  rw [m_Rm_declare, e_Rm_declare_0]
  refine k_bd (rr_begins d (by omega) _ (rr_put0 hW) hT (by rw [f0.2.1 2 rfl]; exact e2) (by rw [f0.2.1 16 rfl]; exact e16) (by omega)) (fun s1 x1 g1 => ?_)
  obtain ⟨c1, t1, -, N, S, h1⟩ := g1
  refine k_mono (rr_decls d (by omega) (m + 2 * T) N (N + 1) 0 s1 (by omega) (Or.inr ⟨κ, nc, m, 0, 0, 0, 0, S, h1⟩)) (fun σ r g => ?_)
  obtain ⟨Y, κ', nc', m', hm', hW', e16'⟩ := g
  exact rr_Q.mk (fun b hb => (Y.1 b hb).trans ((c1 b hb).trans (rr_C.of f0 rfl b hb))) (Y.2.trans t1) hm' hm e16' hW'
/-- after one object is read and checked -/
def rr_A1 (κ : Nat → Std.Format) (nc m M : Nat) (s σ : c_S) (r : Int32) : Prop := rr_Y s σ ∧ rr_W κ nc m σ ∧ (h_D M σ ∨ ∃ C L W t S T n w y τ, h_S κ nc M C L W t S T 0 [] σ ∧ r = nI n ∧ C + y ≤ 200000 ∧ L + y ≤ 200000 ∧ w ≤ 600 ∧ h_R κ nc C L W 38 w y [] n τ σ)
theorem h_D.x {M R : Nat} {s σ : c_S} {κ : Nat → Std.Format} {nc m : Nat} (hx : x_D M s) (hW : rr_W κ nc m s) (f : z_F [] [59] [] s σ) (e : σ.1 34 59 = nI R) (hR : R ≤ 700) : h_D M σ := ⟨hx.of f rfl, by rw [f.2.1 41 rfl]; exact hW.2.2.2.2.1, R, hR, e⟩
set_option maxHeartbeats 1000000 in
theorem rr_obj (d : Nat) (hd : 760 ≤ d) {κ : Nat → Std.Format} {nc m lo M N a C L W t S T k w n : Nat} (s : c_S) (hL : rr_L N M m a s) (hW : rr_W κ nc lo s) (hc : rr_c C L W t S s) (e17 : s.1 34 17 = nI T) (e59 : s.1 34 59 = nI 0) (hT : 120000 ≤ T) (l0 : Nat) (tr : x_T s l0 k 82 38 w n) (hw : w ≤ 600) (bC : C + 21 * (n + 1 - l0) ≤ 200000) (bL : L + 21 * (n + 1 - l0) ≤ 200000) (bT : T + (n + 1 - l0) ≤ 136000) : k_ok (c_M d 71 [v_r 34, v_i (nI n)] s) (fun σ _ => h_OP κ nc M C L W t T 0 l0 38 w n [] s σ) := by
  have ln := x_T_lo tr
  have hm := hL.2.2.2.2
  exact (h_all κ nc M 82 d (by omega)).1 C L W t S T 0 l0 k 38 w n [] s ⟨⟨⟨hL.1, hL.2.2.1, m, by omega, hL.2.2.2.1⟩, hc.1, hc.2.1, hc.2.2.1, ⟨e17, hT, by omega⟩, e59, ⟨hW.1.w, hW.1.2.2.2.1, hW.2.1⟩, hc.2.2.2.2, trivial, 1, hc.2.2.2.1⟩, tr, by simp, by omega, by omega, by omega, by omega⟩
set_option maxHeartbeats 1000000 in
theorem rr_askOne (d : Nat) (hd : 770 ≤ d) {κ : Nat → Std.Format} {nc m M N S : Nat} (s : c_S) (h : rr_S κ nc M N m 0 0 0 0 0 S s) (e17 : s.1 34 17 = nI 120000) : k_ok (c_M d 91 [v_r 34] s) (rr_A1 κ nc m M s) := by
  obtain ⟨d, rfl⟩ : ∃ e, d = e + 1 := ⟨d - 1, by omega⟩
  obtain ⟨hL, hW, h1, h2, h3, h4, bC, bL⟩ := h
  have hc : rr_c 0 0 0 0 S s := ⟨h1, h2, h3, h4⟩
  rw [m_Rm_askOne, e_Rm_askOne_0]
  refine k_bd (rr_rw d (by omega) s hL) (fun s1 x1 g1 => ?_)
  obtain ⟨f1, o1, g1⟩ := g1
  have hN := hL.2.1
  have dead : ∀ s2 : c_S, rr_Y s s2 → x_D M s2 → rr_W κ nc m s2 → k_ok (b_Rm_askOne_33 (c_M d) x1 s2) (rr_A1 κ nc m M s) := fun s2 Y D W2 => by
    have f : z_F [] [59] [] s2 (c_put s2 34 59 0) := z_F.puf z_F.rf rfl
    rw [e_Rm_askOne_33, if_neg (x_gt D)]
    exact k_some ⟨Y.tr (rr_Y.of f rfl), W2.fld f rfl, Or.inl (h_D.x D W2 f (R := 0) c_put_same (by omega))⟩
  rcases g1 with D1 | ⟨m1, a1, n, w, k, L1, rfl, hn, a13, pot, tr, hw⟩
  · rw [if_neg (x_gt D1)]
    exact dead s1 (rr_Y.of f1 rfl) D1 (hW.rd f1 o1.o D1.1)
  have W1 := hW.rd f1 o1.o L1.1
  have c1 := hc.fld f1 rfl
  have ha1 := L1.2.2.2.2
  have ln := x_T_lo tr
  rw [if_pos L1.2.2.1, ha1.1, c_rg_nI (by omega) (by decide), nI_clamp (show a1 < 2 ^ 31 by omega)]
  refine k_if (fun _ => ?_) (fun _ => ?_)
  · rw [e_Rm_askOne_33, if_pos L1.2.2.1]
    have f2 : z_F [] [59] [] s1 (c_put s1 34 59 0) := z_F.puf z_F.rf rfl
    have L2 : rr_L N M m1 a1 (c_put s1 34 59 0) := L1.fld f2 rfl rfl rfl
    have W2 := W1.fld f2 rfl
    have c2 := c1.fld f2 rfl
    have e172 : (c_put s1 34 59 0).1 34 17 = nI 120000 := by rw [f2.2.1 17 rfl, f1.2.1 17 rfl]; exact e17
    have tr2 : x_T (c_put s1 34 59 0) m k 82 38 w n := x_T_old (x_old.of f2 rfl (T := n + 1)) k 82 38 w n (by omega) tr
    have e59 : (c_put s1 34 59 0).1 34 59 = nI 0 := c_put_same
    have Y2 : rr_Y s (c_put s1 34 59 0) := (rr_Y.of f1 rfl).tr (rr_Y.of f2 rfl)
    generalize c_put s1 34 59 0 = s2 at f2 L2 W2 c2 e172 tr2 e59 Y2 ⊢
    refine k_bd (rr_obj d (by omega) s2 L2 W2 c2 e172 e59 (by omega) m tr2 hw (by omega) (by omega) (by omega)) (fun s3 x3 g3 => k_some ?_)
    obtain ⟨X3, D3 | ⟨C3, L3, W3, t3, S3, T3, y3, τ3, h3', -, cC, cL, -, -, hr⟩⟩ := g3
    · exact ⟨Y2.tr X3.Yy, W2.ck X3 D3.2.1, Or.inl D3⟩
    · exact ⟨Y2.tr X3.Yy, W2.ck X3 ⟨S3, h3'.2.2.2.1.2, h3'.2.2.2.1.1⟩, Or.inr ⟨C3, L3, W3, t3, S3, T3, n, w, y3, τ3, h3', rfl, by omega, by omega, hw, hr⟩⟩
  · refine k_bd (rr_wrongL d (by omega) 1 (by decide) s1 L1) (fun s2 x2 g2 => ?_)
    exact dead s2 ((rr_Y.of f1 rfl).tr (rr_Y.of g2.1 rfl)) g2.2 (W1.fld g2.1 rfl)
