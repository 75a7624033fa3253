/-- the objects of a family, in a row -/
theorem v_behindOf_5 {κ : Nat → Std.Format} {nc L W t S q : Nat} (d : Nat) (hd : 1 ≤ d) (β : Std.Format) (hβ : f_at β) : ∀ (kk hh kh C B n c k : Nat) (Γ τs : List Std.Format) (l b : Int32) (s : c_S), c < nc → hh ≤ 38 → v_S C L B W t S q s → w_K s κ nc → o_T s κ nc kk hh Γ n (f_l τs β) → o_h s kh n c → w_W s κ nc C L W k (.inr l) Γ → w_B s κ nc C L W B b τs → C + 76 ≤ 400000 + τs.length → B + 76 ≤ 400000 + τs.length → ∃ σ r C' B' τs', b_Rm_behindOf_5 (c_M d) l b (nI n) s = some (σ, r) ∧ v_S C' L B' W t S q σ ∧ v_ex C L B W s σ ∧ C ≤ C' ∧ B ≤ B' ∧ C' + τs.length = C + τs'.length ∧ B' + τs.length = B + τs'.length ∧ w_B σ κ nc C' L W B' r τs' ∧ σ.1 34 51 = nI c ∧ c < nc ∧ κ c = f_l τs' β
  | 0, _, _, _, _, _, _, _, _, _, _, _, _, _, _, _, _, hx, _, _, _, _, _ => hx.elim
  | kk + 1, hh, 0, _, _, _, _, _, _, _, _, _, _, _, _, _, _, _, hx, _, _, _, _ => hx.elim
  | kk + 1, hh, kh + 1, C, B, n, c, k, Γ, τs, l, b, s, hcn, hhh, hv, hK, hx, hh1, hW, hB, r1, r2 => by
    obtain ⟨⟨u1, u2, u3, u4, u5⟩, v1, v2, v3⟩ := id hv
    have hΓ := w_W_Γ k l Γ hW
    have hκ : ∀ c, c < nc → f_n (κ c) ≤ 38 ∧ f_ok (κ c) := fun c hc => (hK.2 c hc).1
    obtain ⟨hn, hx⟩ := hx
    rw [e_Rm_behindOf_5, c_rg_nI (by omega) (by decide), nI_clamp (show n < 2 ^ 31 by omega)]
    rcases hh1 with ⟨e, e2⟩ | ⟨e, a, a1, a2, a3⟩
    · rcases hx with ⟨e', -⟩ | ⟨e', c', c1, c2, c3⟩ | ⟨e', -⟩ | ⟨e', -⟩
      · rw [e] at e'; exact absurd e' (by decide)
      · have hnc := hK.1
        have hcc : c' = c := by
          rw [e2] at c1
          exact ((nI_eq (by omega) (by omega)).mp c1).symm
        subst hcc
        rw [if_neg (by rw [e]; decide), c_rg_nI (by omega) (by decide), e2]
        have f : z_F [] [51] [] s (c_put s 34 51 (nI c')) := z_F.puf z_F.rf rfl
        have ex : v_ex C L B W s (c_put s 34 51 (nI c')) := v_fld (z_F.mono f rfl)
        exact ⟨_, b, C, B, τs, rfl, ⟨⟨by rw [f.2.1 30 rfl]; exact u1, by rw [f.2.1 33 rfl]; exact u2, by rw [f.2.1 36 rfl]; exact u3, ⟨by rw [f.2.1 42 rfl]; exact u4.1, u4.2⟩, ⟨by rw [f.2.1 41 rfl]; exact u5.1, u5.2⟩⟩, by rw [f.2.1 40 rfl]; exact v1, by rw [f.2.1 53 rfl]; exact v2, v3⟩, ex, Nat.le_refl _, Nat.le_refl _, rfl, rfl, ex.B hB (Nat.le_refl _) (Nat.le_refl _) (Nat.le_refl _) (Nat.le_refl _), c_put_same, c2, c3.symm⟩
      · rw [e] at e'; exact absurd e' (by decide)
      · rw [e] at e'; exact absurd e' (by decide)
    · rcases hx with ⟨e', -⟩ | ⟨e', -⟩ | ⟨e', -⟩ | ⟨e', a', bb, s', q1, q2, q3, q4, q5, q6⟩
      · rw [e] at e'; exact absurd e' (by decide)
      · rw [e] at e'; exact absurd e' (by decide)
      · rw [e] at e'; exact absurd e' (by decide)
      · have haa : a' = a := by
          rw [a2] at q1
          exact ((nI_eq (by omega) (by omega)).mp q1).symm
        subst haa
        have hq2 : τs.length + 1 ≤ 76 := by
          have := (o_T_ok hκ kk hh Γ a' _ hΓ q5).1
          rw [f_n_a, f_l_n hβ] at this; omega
        rw [if_pos e, c_rg_nI (by omega) (by decide), q2]
        obtain ⟨σ1, es1, f1, m1, m2, m3, m4⟩ := w_closure d hd (nI bb) l s C (by omega) u1
        rw [es1, c_bd_some]
        obtain ⟨σ2, es2, f2, p1, p2, p3, p4⟩ := w_behind d hd (nI C) b σ1 B (by omega) (by rw [f1.2.1 36 rfl]; exact u3)
        rw [es2, c_bd_some, c_rg_nI (by omega) (by decide), f2.1 41 rfl (by decide), f1.1 41 rfl (by decide), q1]
        have ex1 : v_ex C L B W s σ1 := ⟨z_F.mono f1 rfl, ⟨o_ag.of f1 rfl, m4, fun h _ => by rw [f1.1 55 rfl (by decide), f1.1 56 rfl (by decide)]; exact ⟨rfl, rfl⟩, fun h _ => by rw [f1.1 59 rfl (by decide), f1.1 60 rfl (by decide)]; exact ⟨rfl, rfl⟩⟩, fun i _ => by rw [f1.1 57 rfl (by decide), f1.1 58 rfl (by decide)]; exact ⟨rfl, rfl⟩⟩
        have ex2 : v_ex (C + 1) L B W σ1 σ2 := ⟨z_F.mono f2 rfl, ⟨o_ag.of f2 rfl, fun h _ => by rw [f2.1 53 rfl (by decide), f2.1 54 rfl (by decide)]; exact ⟨rfl, rfl⟩, fun h _ => by rw [f2.1 55 rfl (by decide), f2.1 56 rfl (by decide)]; exact ⟨rfl, rfl⟩, fun h _ => by rw [f2.1 59 rfl (by decide), f2.1 60 rfl (by decide)]; exact ⟨rfl, rfl⟩⟩, p4⟩
        have ex : v_ex C L B W s σ2 := ex1.tr ex2 (by omega) (Nat.le_refl _) (Nat.le_refl _) (Nat.le_refl _)
        have hv2 : v_S (C + 1) L (B + 1) W t S q σ2 := ⟨⟨by rw [f2.2.1 30 rfl]; exact m1, by rw [f2.2.1 33 rfl, f1.2.1 33 rfl]; exact u2, p1, ⟨by rw [f2.2.1 42 rfl, f1.2.1 42 rfl]; exact u4.1, u4.2⟩, ⟨by rw [f2.2.1 41 rfl, f1.2.1 41 rfl]; exact u5.1, u5.2⟩⟩, by rw [f2.2.1 40 rfl, f1.2.1 40 rfl]; exact v1, by rw [f2.2.1 53 rfl, f1.2.1 53 rfl]; exact v2, v3⟩
        have hcl : w_W σ2 κ nc (C + 1) L W (k + 1) (.inl C) [s'] := ⟨by omega, Or.inl ⟨s', bb, Γ, rfl, by rw [f2.1 53 rfl (by decide)]; exact m2, ⟨kk, hh, hhh, o_T_ag ex.2.1.1 kk hh Γ bb s' q6⟩, by rw [f2.1 54 rfl (by decide), m3]; exact ex.W hW (Nat.le_refl _) (by omega) (Nat.le_refl _) (Nat.le_refl _)⟩⟩
        have hB2 : w_B σ2 κ nc (C + 1) L W (B + 1) (nI B) (s' :: τs) := ⟨B, C, rfl, by omega, p2, ⟨k + 1, hcl⟩, by rw [p3]; exact ex.B hB (by omega) (Nat.le_refl _) (by omega) (Nat.le_refl _)⟩
        obtain ⟨σ, r, C', B', τs', g1, g2, g3, g4, g5, g6, g7, g8, g9, g10, g11⟩ := v_behindOf_5 d hd β hβ kk hh kh (C + 1) (B + 1) a' c k Γ (s' :: τs) l (nI B) σ2 hcn hhh hv2 (ex.K hK) (o_T_ag ex.2.1.1 kk hh Γ a' _ q5) (o_h_ag ex.2.1.1 kh a' c (by omega) a3) (ex.W hW (Nat.le_refl _) (by omega) (Nat.le_refl _) (Nat.le_refl _)) hB2 (by rw [List.length_cons]; omega) (by rw [List.length_cons]; omega)
        rw [List.length_cons] at g6 g7
        exact ⟨σ, r, C', B', τs', g1, g2, ex.tr g3 (by omega) (Nat.le_refl _) (by omega) (Nat.le_refl _), by omega, by omega, by omega, by omega, g8, g9, g10, g11⟩
/-- behindOf of a family with its objects -/
theorem v_behindOf {κ : Nat → Std.Format} {nc C L B W t S q : Nat} (d : Nat) (hd : 2 ≤ d) (kk hh kh n c k : Nat) (Γ : List Std.Format) (l : Int32) (s : c_S) (hc : c < nc) (hhh : hh ≤ 38) (hv : v_S C L B W t S q s) (hK : w_K s κ nc) (hx : o_T s κ nc kk hh Γ n f_t) (hh1 : o_h s kh n c) (hW : w_W s κ nc C L W k (.inr l) Γ) (r1 : C + 76 ≤ 400000) (r2 : B + 76 ≤ 400000) : ∃ σ r C' B' τs', c_M d 56 [v_r 34, v_i (nI n), v_i l] s = some (σ, r) ∧ v_S C' L B' W t S q σ ∧ v_ex C L B W s σ ∧ C' = C + τs'.length ∧ B' = B + τs'.length ∧ w_B σ κ nc C' L W B' r τs' ∧ σ.1 34 51 = nI c ∧ κ c = f_l τs' f_t := by
  obtain ⟨d, rfl⟩ : ∃ e, d = e + 1 := ⟨d - 1, by omega⟩
  rw [m_Rm_behindOf, e_Rm_behindOf_0]
  obtain ⟨σ, r, C', B', τs', g1, g2, g3, g4, g5, g6, g7, g8, g9, g10, g11⟩ := v_behindOf_5 d (by omega) f_t f_t_at kk hh kh C B n c k Γ [] l (-1) s hc hhh hv hK hx hh1 hW rfl (by simpa using r1) (by simpa using r2)
  exact ⟨σ, r, C', B', τs', g1, g2, g3, by simpa using g6, by simpa using g7, g8, g9, g11⟩
theorem v_many_4 {κ : Nat → Std.Format} {nc C L W B : Nat} (hB : B ≤ 400000) (d : Nat) (s : c_S) : ∀ (τs : List Std.Format) (m : Nat) (b : Int32), w_B s κ nc C L W B b τs → b_Rm_manyBehind_4 (c_M d) (nI m) b s = some (s, nI (m + τs.length))
  | [], m, b, hb => by
    have hb : b = -1 := hb
    subst hb
    rw [e_Rm_manyBehind_4, if_pos (by decide)]; rfl
  | τ :: τs, m, b, hb => by
    obtain ⟨i, hd', rfl, i1, i2, -, i4⟩ := hb
    rw [e_Rm_manyBehind_4, if_neg (nI_pos (by omega)), c_rg_nI (by omega) (by decide), nI_clamp (show i < 2 ^ 31 by omega), nI_1, v_many_4 hB d s τs (m + 1) _ i4, List.length_cons]
    congr 2
    rw [Nat.add_assoc, Nat.add_comm 1]
theorem v_many {κ : Nat → Std.Format} {nc C L W B : Nat} (hB : B ≤ 400000) (d : Nat) (hd : 1 ≤ d) (s : c_S) (τs : List Std.Format) (b : Int32) (hb : w_B s κ nc C L W B b τs) : c_M d 52 [v_r 34, v_i b] s = some (s, nI τs.length) := by
  obtain ⟨d, rfl⟩ : ∃ e, d = e + 1 := ⟨d - 1, by omega⟩
  have h := v_many_4 hB d s τs 0 b hb
  rw [Nat.zero_add] at h
  rw [m_Rm_manyBehind, e_Rm_manyBehind_0]
  exact h
