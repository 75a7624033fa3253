/-! HEAD FORMS in the reference -/
def u_S (C L B t S : Nat) (s : c_S) : Prop := s.1 34 30 = nI C ∧ s.1 34 33 = nI L ∧ s.1 34 36 = nI B ∧ (s.1 34 42 = nI t ∧ t ≤ 20000) ∧ (s.1 34 41 = nI S ∧ S ≤ 60000)
theorem w_without_5 (d : Nat) {κ : Nat → Std.Format} {nc CL LI NW : Nat} (hL : LI ≤ 400000) (s : c_S) (i : Nat) (hi : i < 2 ^ 31) : ∀ (m j k : Nat) (l : Int32) (Γ : List Std.Format), i = j + m → m ≤ Γ.length → w_W s κ nc CL LI NW k (.inr l) Γ → ∃ l' k', b_Rm_without_5 (c_M d) (nI i) l (nI j) s = some (s, l') ∧ k' ≤ k ∧ w_W s κ nc CL LI NW k' (.inr l') (Γ.drop m)
  | 0, j, k, l, Γ, hj, _, hw => ⟨l, k, by rw [e_Rm_without_5, if_neg (nI_nlt (by omega) (by omega))], Nat.le_refl _, hw⟩
  | m + 1, j, k, l, Γ, hj, hm, hw => by
    cases Γ with
    | nil => exact absurd hm (by simp)
    | cons τ Γ =>
      cases k with
      | zero => exact hw.elim
      | succ k =>
        obtain ⟨x, hd, rfl, q2, q3, q4, q5, q6⟩ := hw
        obtain ⟨l', k', e, hk, hw'⟩ := w_without_5 d hL s i hi m (j + 1) k (s.1 56 x) Γ (by omega) (by simpa using hm) q6
        refine ⟨l', k', ?_, by omega, hw'⟩
        rw [e_Rm_without_5, if_pos (nI_lt (by omega) hi), c_rg_nI (by omega) (by decide), nI_clamp (show x < 2 ^ 31 by omega), nI_1]
        exact e
theorem w_without (d : Nat) (hd : 1 ≤ d) {κ : Nat → Std.Format} {nc CL LI NW : Nat} (hL : LI ≤ 400000) (s : c_S) (i k : Nat) (hi : i < 2 ^ 31) (l : Int32) (Γ : List Std.Format) (hm : i ≤ Γ.length) (hw : w_W s κ nc CL LI NW k (.inr l) Γ) : ∃ l' k', c_M d 50 [v_r 34, v_i l, v_i (nI i)] s = some (s, l') ∧ k' ≤ k ∧ w_W s κ nc CL LI NW k' (.inr l') (Γ.drop i) := by
  obtain ⟨d, rfl⟩ : ∃ e, d = e + 1 := ⟨d - 1, by omega⟩
  rw [m_Rm_without, e_Rm_without_0]
  exact w_without_5 d hL s i hi i 0 k l Γ (by omega) hm hw
/-- what a head is -/
def w_H (σ : c_S) (κ : Nat → Std.Format) (nc CL LI NW : Nat) (x : Int32) (τ : Std.Format) : Prop := (∃ c, x = nI c ∧ c < nc ∧ κ c = τ) ∨ (∃ w t Γ k kk, x = -nI (w + 1) ∧ w < NW ∧ σ.1 59 w = nI t ∧ o_F σ κ nc kk 37 Γ t τ ∧ w_W σ κ nc CL LI NW k (.inr (σ.1 60 w)) Γ)
/-- what was there is as it was -/
def w_ex (C L B NW : Nat) (s σ : c_S) : Prop := z_F [53, 54, 55, 56, 57, 58] [30, 33, 36, 41, 42, 51, 52] [] s σ ∧ w_ag C L NW s σ ∧ (∀ i, i < B → σ.1 57 i = s.1 57 i ∧ σ.1 58 i = s.1 58 i)
theorem w_ex.rf {C L B NW : Nat} {s : c_S} : w_ex C L B NW s s := ⟨z_F.rf, w_ag.rf, fun _ _ => ⟨rfl, rfl⟩⟩
theorem w_ex.tr {C L B C' L' B' NW : Nat} {s t u : c_S} (h : w_ex C L B NW s t) (k : w_ex C' L' B' NW t u) (h1 : C ≤ C') (h2 : L ≤ L') (h3 : B ≤ B') : w_ex C L B NW s u :=
  ⟨z_F.tr h.1 k.1, h.2.1.tr (k.2.1.le h1 h2 (Nat.le_refl _)), fun i hi => ⟨(k.2.2 i (by omega)).1.trans (h.2.2 i hi).1, (k.2.2 i (by omega)).2.trans (h.2.2 i hi).2⟩⟩
/-- what heads leaves: q = how many stood behind, at the start -/
def w_hP (κ : Nat → Std.Format) (nc NW C L B t q : Nat) (β : Std.Format) (s σ : c_S) (r : Int32) : Prop := w_ex C L B NW s σ ∧ ∃ C' L' B' t' S', u_S C' L' B' t' S' σ ∧ C ≤ C' ∧ L ≤ L' ∧ B ≤ B' ∧ t ≤ t' ∧ L' + t ≤ L + t' ∧ C' + t + q ≤ C + t' + 76 ∧ B' + t + q ≤ B + t' + 76 ∧ (r = 9 ∨ (r = 0 ∧ ∃ τs, w_B σ κ nc C' L' NW B' (σ.1 34 52) τs ∧ C' + t + q ≤ C + t' + τs.length ∧ B' + t + q ≤ B + t' + τs.length ∧ w_H σ κ nc C' L' NW (σ.1 34 51) (f_l τs β)))
theorem w_hP.pre {κ : Nat → Std.Format} {nc NW C L B t q C1 L1 B1 t1 q1 : Nat} {β : Std.Format} {s s1 σ : c_S} {r : Int32} (g : w_hP κ nc NW C1 L1 B1 t1 q1 β s1 σ r) (h : w_ex C L B NW s s1) (h1 : C ≤ C1) (h2 : L ≤ L1) (h3 : B ≤ B1) (h4 : t ≤ t1) (h5 : L1 + t ≤ L + t1) (h6 : C1 + t + q ≤ C + t1 + q1) (h7 : B1 + t + q ≤ B + t1 + q1) : w_hP κ nc NW C L B t q β s σ r := by
  obtain ⟨g1, C', L', B', t', S', g2, g3, g4, g5, g6, g7, g8, g9, g10⟩ := g
  refine ⟨h.tr g1 h1 h2 h3, C', L', B', t', S', g2, by omega, by omega, by omega, by omega, by omega, by omega, by omega, ?_⟩
  rcases g10 with e | ⟨e, τs, k1, k2, k3, k4⟩
  · exact Or.inl e
  · exact Or.inr ⟨e, τs, k1, by omega, by omega, k4⟩
/-- room enough for a head form -/
def w_rm (C L B t q : Nat) : Prop := C + (20000 - t) + 76 ≤ 400000 + q ∧ B + (20000 - t) + 76 ≤ 400000 + q ∧ L + (20000 - t) ≤ 400000
def w_TB (κ : Nat → Std.Format) (nc NW d t : Nat) (k kk : Nat) : Prop := ∀ (hh C L B S : Nat) (Γ τs : List Std.Format) (β : Std.Format) (n : Nat) (l b : Int32) (s : c_S), u_S C L B t S s → w_K s κ nc → f_at β → hh ≤ 38 → o_T s κ nc kk hh Γ n (f_l τs β) → w_W s κ nc C L NW k (.inr l) Γ → w_B s κ nc C L NW B b τs → w_rm C L B t τs.length → k_ok (b_Rm_heads_18 (c_M d) (nI n) l b s) (w_hP κ nc NW C L B t τs.length β s)
theorem w_W_Γ {σ : c_S} {κ : Nat → Std.Format} {nc CL LI NW : Nat} : ∀ (k : Nat) (l : Int32) (Γ : List Std.Format), w_W σ κ nc CL LI NW k (.inr l) Γ → ∀ x ∈ Γ, (f_n x ≤ 37 ∧ f_fin x) ∧ f_ok x
  | 0, _, _, hx, _, _ => hx.elim
  | k + 1, l, [], _, x, hx => by cases hx
  | k + 1, l, τ :: Γ, hw, x, hx => by
    obtain ⟨i, hd, q1, q2, q3, q4, q5, q6⟩ := hw
    rcases List.mem_cons.mp hx with rfl | hx
    · exact q4
    · exact w_W_Γ k _ Γ q6 x hx
theorem w_fld {C L B NW : Nat} {s σ : c_S} (f : z_F [] [51, 52] [] s σ) : w_ex C L B NW s σ :=
  ⟨z_F.mono f rfl, ⟨o_ag.of f rfl, fun h _ => by rw [f.1 53 rfl (by decide), f.1 54 rfl (by decide)]; exact ⟨rfl, rfl⟩, fun h _ => by rw [f.1 55 rfl (by decide), f.1 56 rfl (by decide)]; exact ⟨rfl, rfl⟩, fun h _ => by rw [f.1 59 rfl (by decide), f.1 60 rfl (by decide)]; exact ⟨rfl, rfl⟩⟩, fun i _ => by rw [f.1 57 rfl (by decide), f.1 58 rfl (by decide)]; exact ⟨rfl, rfl⟩⟩
theorem w_stp {C L B NW : Nat} {s σ : c_S} (f : z_F [] [41, 42] [] s σ) : w_ex C L B NW s σ :=
  ⟨z_F.mono f rfl, ⟨o_ag.of f rfl, fun h _ => by rw [f.1 53 rfl (by decide), f.1 54 rfl (by decide)]; exact ⟨rfl, rfl⟩, fun h _ => by rw [f.1 55 rfl (by decide), f.1 56 rfl (by decide)]; exact ⟨rfl, rfl⟩, fun h _ => by rw [f.1 59 rfl (by decide), f.1 60 rfl (by decide)]; exact ⟨rfl, rfl⟩⟩, fun i _ => by rw [f.1 57 rfl (by decide), f.1 58 rfl (by decide)]; exact ⟨rfl, rfl⟩⟩
theorem w_ex.B {C L B NW C' L' B' : Nat} {s σ : c_S} (h : w_ex C L B NW s σ) {κ : Nat → Std.Format} {nc : Nat} {b : Int32} {τs : List Std.Format} (hb : w_B s κ nc C L NW B b τs) (h1 : C ≤ C') (h2 : L ≤ L') (h3 : B ≤ B') : w_B σ κ nc C' L' NW B' b τs := w_B_ag h.2.1 h.2.2 h1 h2 (Nat.le_refl _) h3 τs b hb
theorem w_ex.W {C L B NW C' L' : Nat} {s σ : c_S} (h : w_ex C L B NW s σ) {κ : Nat → Std.Format} {nc k k' : Nat} {x : Nat ⊕ Int32} {Γ : List Std.Format} (hb : w_W s κ nc C L NW k x Γ) (hk : k ≤ k') (h1 : C ≤ C') (h2 : L ≤ L') : w_W σ κ nc C' L' NW k' x Γ := w_W_up h1 h2 (Nat.le_refl _) k k' x Γ hk (w_W_ag h.2.1 k x Γ hb)
theorem w_ex.K {C L B NW : Nat} {s σ : c_S} (h : w_ex C L B NW s σ) {κ : Nat → Std.Format} {nc : Nat} (hK : w_K s κ nc) : w_K σ κ nc := w_K_ag hK h.2.1.1 (h.1.1 50 rfl (by decide)) (h.1.1 51 rfl (by decide))
theorem u_S.fld {C L B t S : Nat} {s σ : c_S} (hu : u_S C L B t S s) (f : z_F [] [51, 52] [] s σ) : u_S C L B t S σ := by
  obtain ⟨h1, h2, h3, h4, h5⟩ := hu
  exact ⟨by rw [f.2.1 30 rfl]; exact h1, by rw [f.2.1 33 rfl]; exact h2, by rw [f.2.1 36 rfl]; exact h3, ⟨by rw [f.2.1 42 rfl]; exact h4.1, h4.2⟩, ⟨by rw [f.2.1 41 rfl]; exact h5.1, h5.2⟩⟩
theorem w_neg {w : Nat} (hw : w < 24000) : -nI (w + 1) < (0 : Int32) := by
  rw [Int32.lt_iff_toInt_lt, Int32.toInt_neg, nI_toInt (by omega), show (0 : Int32).toInt = 0 from by decide, Int.bmod_def]
  omega
/-- it ends here, with what stands behind -/
theorem w_stop {κ : Nat → Std.Format} {nc NW C L B t S : Nat} {τs : List Std.Format} {β : Std.Format} {x b : Int32} {s : c_S} (hu : u_S C L B t S s) (hB : w_B s κ nc C L NW B b τs) (hq : τs.length ≤ 76) (hH : w_H s κ nc C L NW x (f_l τs β)) : k_ok (some ((c_put (c_put s 34 51 x) 34 52 b), 0)) (w_hP κ nc NW C L B t τs.length β s) := by
  have f : z_F [] [51, 52] [] s (c_put (c_put s 34 51 x) 34 52 b) := z_F.puf (z_F.puf z_F.rf rfl) rfl
  have ex : w_ex C L B NW s (c_put (c_put s 34 51 x) 34 52 b) := w_fld f
  refine k_some ⟨ex, C, L, B, t, S, hu.fld f, Nat.le_refl _, Nat.le_refl _, Nat.le_refl _, Nat.le_refl _, Nat.le_refl _, by omega, by omega, Or.inr ⟨rfl, τs, ?_, Nat.le_refl _, Nat.le_refl _, ?_⟩⟩
  · rw [c_put_same]; exact ex.B hB (Nat.le_refl _) (Nat.le_refl _) (Nat.le_refl _)
  · rw [c_put_get, if_neg (by decide), c_put_same]
    rcases hH with h | ⟨w, tt, Γ, k, kk, e, h1, h2, h3, h4⟩
    · exact Or.inl h
    · obtain ⟨e1, e2⟩ := ex.2.1.2.2.2 w h1
      exact Or.inr ⟨w, tt, Γ, k, kk, e, h1, e1.trans h2, o_F_ag ex.2.1.1 kk 37 Γ tt _ h3, by rw [e2]; exact ex.W h4 (Nat.le_refl _) (Nat.le_refl _) (Nat.le_refl _)⟩
/-- a closure comes to its head, once its term does -/
theorem w_cl {κ : Nat → Std.Format} {nc NW d t k : Nat} (hN : NW ≤ 24000) (hT : ∀ kk, w_TB κ nc NW d t k kk) (C L B S h : Nat) (τs : List Std.Format) (β : Std.Format) (b : Int32) (s : c_S) (hu : u_S C L B t S s) (hK : w_K s κ nc) (hβ : f_at β) (hw : w_W s κ nc C L NW (k + 1) (.inl h) [f_l τs β]) (hB : w_B s κ nc C L NW B b τs) (hr : w_rm C L B t τs.length) (hq : τs.length ≤ 76) : k_ok (b_Rm_heads_18 (c_M d) (s.1 53 h) (s.1 54 h) b s) (w_hP κ nc NW C L B t τs.length β s) := by
  obtain ⟨hC, hw⟩ := hw
  rcases hw with ⟨τ, n, Γ', q1, q2, ⟨kk, hh, q3, q4⟩, q5⟩ | ⟨τ, w, t', Γ', q1, q2, q3, q4, ⟨kk, q5⟩, q6⟩
  · cases q1
    rw [q2]
    exact hT kk hh C L B S Γ' τs β n _ b s hu hK hβ q3 q4 q5 hB hr
  · cases q1
    rw [q2, e_Rm_heads_18, if_pos (w_neg (by omega))]
    exact w_stop hu hB hq (Or.inr ⟨w, t', Γ', k, kk, rfl, q3, q4, q5, q6⟩)
set_option maxHeartbeats 1000000 in
theorem w_heads_in (d : Nat) (hd : 2 ≤ d) (κ : Nat → Std.Format) (nc NW t : Nat) (hN : NW ≤ 24000) (ht : t ≤ 20000) (ihN : t < 20000 → ∀ k kk, w_TB κ nc NW d (t + 1) k kk) (k : Nat) (ihk : ∀ k', k' < k → ∀ kk, w_TB κ nc NW d t k' kk) : ∀ kk, w_TB κ nc NW d t k kk
  | 0 => fun hh C L B S Γ τs β n l b s hu hK hβ hhh hx => hx.elim
  | kk + 1 => fun hh C L B S Γ τs β n l b s hu hK hβ hhh hx hW hB hr => by
    obtain ⟨u1, u2, u3, u4, u5⟩ := id hu
    have hΓ := w_W_Γ k l Γ hW
    have hκ : ∀ c, c < nc → f_n (κ c) ≤ 38 ∧ f_ok (κ c) := fun c hc => (hK.2 c hc).1
    have hq : τs.length ≤ 76 := by
      have := (o_T_ok hκ (kk + 1) hh Γ n _ hΓ hx).1
      rw [f_l_n hβ] at this; omega
    obtain ⟨r1, r2, r3⟩ := id hr
    obtain ⟨hn, hx⟩ := hx
    rw [e_Rm_heads_18, if_neg (nI_pos (by omega)), c_rg_nI (by omega) (by decide), nI_clamp (show n < 2 ^ 31 by omega)]
    rcases hx with ⟨e, i, i1, i2, i3⟩ | ⟨e, c, c1, c2, c3⟩ | ⟨e, bb, h', s', r', q1, q2, q3, q4, q5, q6, q7⟩ | ⟨e, a, bb, s', q1, q2, q3, q4, q5, q6⟩
    · -- a VAR
      rw [if_neg (by rw [e]; decide), c_rg_nI (by omega) (by decide), if_pos e, c_rg_nI (by omega) (by decide), i2]
      have hlen : i < Γ.length := (List.getElem?_eq_some_iff.mp i3).1
      obtain ⟨l', k', e2, hk', hw'⟩ := w_without d (by omega) (by omega) s i k (by omega) l Γ (by omega) hW
      rw [e2, c_bd_some]
      have hdrop : Γ.drop i = f_l τs β :: Γ.drop (i + 1) := by
        rw [List.drop_eq_getElem_cons hlen]
        congr 1
        have := (List.getElem?_eq_some_iff.mp i3).2
        exact this
      rw [hdrop] at hw'
      cases k' with
      | zero => exact hw'.elim
      | succ k' =>
        obtain ⟨x, hd', rfl, x1, x2, x3, x4, x5⟩ := hw'
        cases k' with
        | zero => exact x4.elim
        | succ k' =>
          have hdC : hd' < C := x4.1
          rw [c_rg_nI (by omega) (by decide), nI_clamp (show x < 2 ^ 31 by omega), x2, c_rg_nI (by omega) (by decide), c_rg_nI (by omega) (by decide), nI_clamp (show hd' < 2 ^ 31 by omega)]
          exact w_cl hN (ihk k' (by omega)) C L B S hd' τs β b s hu hK hβ x4 hB hr hq
    · -- a constant
      obtain ⟨hκc, -, hm⟩ := hK.2 c c2
      have hnc := hK.1
      rw [if_neg (by rw [e]; decide), c_rg_nI (by omega) (by decide), if_neg (by rw [e]; decide), c_rg_nI (by omega) (by decide), if_neg (by rw [e]; decide), c_rg_nI (by omega) (by decide), c1, c_rg_nI (by omega) (by decide), nI_clamp (show c < 2 ^ 31 by omega)]
      rcases hm with hm | ⟨m, km, hm, hmT⟩
      · rw [hm, if_pos (by decide), c_rg_nI (by omega) (by decide)]
        exact w_stop hu hB hq (Or.inl ⟨c, rfl, c2, c3.symm⟩)
      · have hm2 : m < 120000 := by
          cases km with
          | zero => exact hmT.elim
          | succ km => exact hmT.1
        rw [hm, if_neg (nI_pos (by omega))]
        rcases w_step d (by omega) s t S u4.2 u5.2 u4.1 u5.1 with hs | ⟨σ1, t1, S1, hs, f1, e42, e41⟩
        · rw [hs, c_bd_some, if_pos rfl]
          exact k_some ⟨w_ex.rf, C, L, B, t, S, hu, Nat.le_refl _, Nat.le_refl _, Nat.le_refl _, Nat.le_refl _, Nat.le_refl _, by omega, by omega, Or.inl rfl⟩
        · have ex : w_ex C L B NW s σ1 := w_stp f1
          rw [hs, c_bd_some, if_neg (by decide), c_rg_nI (by omega) (by decide), f1.1 41 rfl (by decide), c1, c_rg_nI (by omega) (by decide), nI_clamp (show c < 2 ^ 31 by omega), f1.1 51 rfl (by decide), hm, e_Rm_heads_202]
          have hu1 : u_S C L B (t + 1) (S + 1) σ1 := ⟨by rw [f1.2.1 30 rfl]; exact u1, by rw [f1.2.1 33 rfl]; exact u2, by rw [f1.2.1 36 rfl]; exact u3, ⟨e42, by omega⟩, ⟨e41, by omega⟩⟩
          rw [← c3] at hmT
          refine k_mono (ihN t1 1 km 38 C L B (S + 1) [] τs β m (-1) b σ1 hu1 (ex.K hK) hβ (Nat.le_refl _) (o_T_ag ex.2.1.1 km 38 [] m _ hmT) rfl (ex.B hB (Nat.le_refl _) (Nat.le_refl _) (Nat.le_refl _)) ⟨by omega, by omega, by omega⟩) (fun σ r g => g.pre ex (Nat.le_refl _) (Nat.le_refl _) (Nat.le_refl _) (by omega) (by omega) (by omega) (by omega))
    · -- a [ ]
      cases τs with
      | nil => exact absurd q4 (hβ _ _)
      | cons τ0 τs =>
        obtain ⟨e0, e1⟩ := f_a_inj (show f_a τ0 (f_l τs β) = f_a s' r' from q4)
        subst e0 e1
        obtain ⟨ib, hb', rfl, b1, b2, ⟨kb, b3⟩, b4⟩ := hB
        have hlen : (τ0 :: τs).length = τs.length + 1 := rfl
        rw [hlen] at r1 r2 hq hr
        rw [if_neg (by rw [e]; decide), c_rg_nI (by omega) (by decide), if_neg (by rw [e]; decide), c_rg_nI (by omega) (by decide), if_pos e, hlen]
        rcases w_step d (by omega) s t S u4.2 u5.2 u4.1 u5.1 with hs | ⟨σ1, t1, S1, hs, f1, e42, e41⟩
        · rw [hs, c_bd_some, if_pos rfl]
          exact k_some ⟨w_ex.rf, C, L, B, t, S, hu, Nat.le_refl _, Nat.le_refl _, Nat.le_refl _, Nat.le_refl _, Nat.le_refl _, by omega, by omega, Or.inl rfl⟩
        · have ex1 : w_ex C L B NW s σ1 := w_stp f1
          rw [hs, c_bd_some, if_neg (by decide), c_rg_nI (by omega) (by decide), nI_clamp (show ib < 2 ^ 31 by omega), f1.1 57 rfl (by decide), b2]
          obtain ⟨σ2, es2, f2, l1, l2, l3, l4⟩ := w_list d (by omega) (nI hb') l σ1 L (by omega) (by rw [f1.2.1 33 rfl]; exact u2)
          rw [es2, c_bd_some, e_Rm_heads_147, c_rg_nI (by omega) (by decide), c_rg_nI (by omega) (by decide), nI_clamp (show n < 2 ^ 31 by omega), nI_clamp (show ib < 2 ^ 31 by omega), f2.1 42 rfl (by decide), f1.1 42 rfl (by decide), q2, f2.1 58 rfl (by decide), f1.1 58 rfl (by decide)]
          have ex2 : w_ex C L B NW σ1 σ2 := ⟨z_F.mono f2 rfl, ⟨o_ag.of f2 rfl, fun h _ => by rw [f2.1 53 rfl (by decide), f2.1 54 rfl (by decide)]; exact ⟨rfl, rfl⟩, l4, fun h _ => by rw [f2.1 59 rfl (by decide), f2.1 60 rfl (by decide)]; exact ⟨rfl, rfl⟩⟩, fun i _ => by rw [f2.1 57 rfl (by decide), f2.1 58 rfl (by decide)]; exact ⟨rfl, rfl⟩⟩
          have ex : w_ex C L B NW s σ2 := ex1.tr ex2 (Nat.le_refl _) (Nat.le_refl _) (Nat.le_refl _)
          have hu2 : u_S C (L + 1) B (t + 1) (S + 1) σ2 := ⟨by rw [f2.2.1 30 rfl, f1.2.1 30 rfl]; exact u1, l1, by rw [f2.2.1 36 rfl, f1.2.1 36 rfl]; exact u3, ⟨by rw [f2.2.1 42 rfl]; exact e42, by omega⟩, ⟨by rw [f2.2.1 41 rfl]; exact e41, by omega⟩⟩
          have hl2 : w_W σ2 κ nc C (L + 1) NW (max kb k + 1) (.inr (nI L)) (τ0 :: Γ) := ⟨L, hb', rfl, by omega, l2, ⟨q5, q6⟩, ex.W b3 (by omega) (Nat.le_refl _) (by omega), by rw [l3]; exact ex.W hW (by omega) (Nat.le_refl _) (by omega)⟩
          refine k_mono (ihN t1 _ kk h' C (L + 1) B (S + 1) (τ0 :: Γ) τs β bb (nI L) (s.1 58 ib) σ2 hu2 (ex.K hK) hβ (by omega) (o_T_ag ex.2.1.1 kk h' _ bb _ q7) hl2 (ex.B b4 (Nat.le_refl _) (by omega) (Nat.le_refl _)) ⟨by omega, by omega, by omega⟩) (fun σ r g => g.pre ex (Nat.le_refl _) (by omega) (Nat.le_refl _) (by omega) (by omega) (by omega) (by omega))
    · -- one behind another
      have hq2 : τs.length + 1 ≤ 76 := by
        have := (o_T_ok hκ kk hh Γ a _ hΓ q5).1
        rw [f_n_a, f_l_n hβ] at this; omega
      rw [if_pos e, c_rg_nI (by omega) (by decide), q2]
      obtain ⟨σ1, es1, f1, m1, m2, m3, m4⟩ := w_closure d (by omega) (nI bb) l s C (by omega) u1
      rw [es1, c_bd_some]
      obtain ⟨σ2, es2, f2, p1, p2, p3, p4⟩ := w_behind d (by omega) (nI C) b σ1 B (by omega) (by rw [f1.2.1 36 rfl]; exact u3)
      rw [es2, c_bd_some, c_rg_nI (by omega) (by decide), f2.1 41 rfl (by decide), f1.1 41 rfl (by decide), q1]
      have ex1 : w_ex C L B NW s σ1 := ⟨z_F.mono f1 rfl, ⟨o_ag.of f1 rfl, m4, fun h _ => by rw [f1.1 55 rfl (by decide), f1.1 56 rfl (by decide)]; exact ⟨rfl, rfl⟩, fun h _ => by rw [f1.1 59 rfl (by decide), f1.1 60 rfl (by decide)]; exact ⟨rfl, rfl⟩⟩, fun i _ => by rw [f1.1 57 rfl (by decide), f1.1 58 rfl (by decide)]; exact ⟨rfl, rfl⟩⟩
      have ex2 : w_ex (C + 1) L B NW σ1 σ2 := ⟨z_F.mono f2 rfl, ⟨o_ag.of f2 rfl, fun h _ => by rw [f2.1 53 rfl (by decide), f2.1 54 rfl (by decide)]; exact ⟨rfl, rfl⟩, fun h _ => by rw [f2.1 55 rfl (by decide), f2.1 56 rfl (by decide)]; exact ⟨rfl, rfl⟩, fun h _ => by rw [f2.1 59 rfl (by decide), f2.1 60 rfl (by decide)]; exact ⟨rfl, rfl⟩⟩, p4⟩
      have ex : w_ex C L B NW s σ2 := ex1.tr ex2 (by omega) (Nat.le_refl _) (Nat.le_refl _)
      have hu2 : u_S (C + 1) L (B + 1) t S σ2 := ⟨by rw [f2.2.1 30 rfl]; exact m1, by rw [f2.2.1 33 rfl, f1.2.1 33 rfl]; exact u2, p1, ⟨by rw [f2.2.1 42 rfl, f1.2.1 42 rfl]; exact u4.1, u4.2⟩, ⟨by rw [f2.2.1 41 rfl, f1.2.1 41 rfl]; exact u5.1, u5.2⟩⟩
      have hcl : w_W σ2 κ nc (C + 1) L NW (k + 1) (.inl C) [s'] := ⟨by omega, Or.inl ⟨s', bb, Γ, rfl, by rw [f2.1 53 rfl (by decide)]; exact m2, ⟨kk, hh, hhh, o_T_ag ex.2.1.1 kk hh Γ bb s' q6⟩, by rw [f2.1 54 rfl (by decide), m3]; exact ex.W hW (Nat.le_refl _) (by omega) (Nat.le_refl _)⟩⟩
      have hB2 : w_B σ2 κ nc (C + 1) L NW (B + 1) (nI B) (s' :: τs) := ⟨B, C, rfl, by omega, p2, ⟨k + 1, hcl⟩, by rw [p3]; exact ex.B hB (by omega) (Nat.le_refl _) (by omega)⟩
      refine k_mono (w_heads_in d hd κ nc NW t hN ht ihN k ihk kk hh (C + 1) L (B + 1) S Γ (s' :: τs) β a l (nI B) σ2 hu2 (ex.K hK) hβ hhh (o_T_ag ex.2.1.1 kk hh Γ a _ q5) (ex.W hW (Nat.le_refl _) (by omega) (Nat.le_refl _)) hB2 ⟨?_, ?_, r3⟩) (fun σ r g => g.pre ex (by omega) (Nat.le_refl _) (by omega) (Nat.le_refl _) (Nat.le_refl _) ?_ ?_)
      all_goals (rw [List.length_cons]; omega)
theorem w_heads_all (d : Nat) (hd : 2 ≤ d) (κ : Nat → Std.Format) (nc NW : Nat) (hN : NW ≤ 24000) : ∀ (m t : Nat), t ≤ 20000 → 20000 - t ≤ m → ∀ k kk, w_TB κ nc NW d t k kk := by
  intro m
  induction m with
  | zero =>
    intro t ht hm k
    induction k using Nat.strongRecOn with
    | ind k ihk => exact w_heads_in d hd κ nc NW t hN ht (fun h => absurd h (by omega)) k ihk
  | succ m ih =>
    intro t ht hm k
    induction k using Nat.strongRecOn with
    | ind k ihk => exact w_heads_in d hd κ nc NW t hN ht (fun h => ih (t + 1) (by omega) (by omega)) k ihk
/-- heads: the closure c with what stands behind it comes to a head, or the STEPS are spent -/
theorem w_heads (d : Nat) (hd : 3 ≤ d) {κ : Nat → Std.Format} {nc NW : Nat} (hN : NW ≤ 24000) (C L B t S h k : Nat) (τs : List Std.Format) (β : Std.Format) (b : Int32) (s : c_S) (hu : u_S C L B t S s) (hK : w_K s κ nc) (hβ : f_at β) (hw : w_W s κ nc C L NW k (.inl h) [f_l τs β]) (hB : w_B s κ nc C L NW B b τs) (hr : w_rm C L B t τs.length) (hq : τs.length ≤ 76) : k_ok (c_M d 51 [v_r 34, v_i (nI h), v_i b] s) (w_hP κ nc NW C L B t τs.length β s) := by
  obtain ⟨d, rfl⟩ : ∃ e, d = e + 1 := ⟨d - 1, by omega⟩
  cases k with
  | zero => exact hw.elim
  | succ k =>
    have hC : h < C := hw.1
    obtain ⟨r1, r2, r3⟩ := id hr
    rw [m_Rm_heads, e_Rm_heads_0, c_rg_nI (by omega) (by decide), c_rg_nI (by omega) (by decide), nI_clamp (show h < 2 ^ 31 by omega)]
    exact w_cl hN (fun kk => w_heads_all d (by omega) κ nc NW hN 20000 t hu.2.2.2.1.2 (by omega) k kk) C L B S h τs β b s hu hK hβ hw hB hr hq
