theorem q_Pa_put (d : Nat) (hd : 2 ≤ d) (i1 : Int32) (s : c_S) : k_ok (c_M d 187 [v_r 24, v_i i1] s) (fun σ r => k_F [18, 24, 26] [(1, 1), (27, 5), (27, 10), (27, 11)] s σ ∧ k_b 0 r) := by
  obtain ⟨d, rfl⟩ : ∃ e, d = e + 2 := ⟨d - 2, by omega⟩
  rw [m_Pa_put, e_Pa_put_0]
  have stop : k_ok (b_Pa_put_17 (c_M (d + 1)) i1 s) (fun σ r => k_F [18, 24, 26] [(1, 1), (27, 5), (27, 10), (27, 11)] s σ ∧ k_b 0 r) := by
    rw [e_Pa_put_17]
    have hs : ∃ t, c_M (d + 1) 165 [v_r 18, v_i 11] s = some (t, 0) ∧ ¬ t.1 18 2 = 0 ∧ k_F [18, 24, 26] [(1, 1), (27, 5), (27, 10), (27, 11)] s t := by
      rw [m_Me_stop, e_Me_stop_0]
      by_cases h : s.1 18 2 = 0
      · rw [if_pos h]
        exact ⟨_, rfl, by rw [c_put_same]; decide, k_F.puf k_F.rf rfl⟩
      · rw [if_neg h]
        exact ⟨_, rfl, h, k_F.rf⟩
    obtain ⟨t, e1, h1, f1⟩ := hs
    rw [e1, c_bd_some, e_Pa_put_26, m_Me_trouble, e_Me_trouble_0, c_bd_some, if_neg h1]
    exact k_some ⟨f1, k_b0⟩
  refine k_if (fun _ => stop) (fun h0 => k_if (fun h1 => ?_) (fun _ => stop))
  rw [e_Pa_put_26, m_Me_trouble, e_Me_trouble_0, c_bd_some]
  refine k_if (fun _ => k_rg (k_in h0 h1 (by decide)) (k_some ⟨?_, k_b0⟩)) (fun _ => k_some ⟨k_F.rf, k_b0⟩)
  exact k_F.puf (k_F.put k_F.rf rfl) rfl
theorem q_Pa_keepDraft_2 (d : Nat) : ∀ (n : Nat) (i1 : Int32) (s : c_S), ¬ i1 < 0 → k_m i1 < n → k_ok (b_Pa_keepDraft_2 (c_M d) i1 s) (fun σ r => k_F [24, 25] [(1, 1), (27, 5), (27, 10), (27, 11)] s σ ∧ k_b 0 r)
  | 0, _, _, _, hn => absurd hn (Nat.not_lt_zero _)
  | n + 1, i1, s, h0, hn => by
    rw [e_Pa_keepDraft_2]
    refine k_if (fun h1 => k_if (fun h2 => ?_) (fun _ => ?_)) (fun _ => ?_)
    · refine k_rg (k_in h0 h2 (by decide)) (k_rg (k_in h0 h2 (by decide)) ?_)
      refine k_mono (q_Pa_keepDraft_2 d n _ _ ?_ (k_up h1 hn)) (fun σ r g => ⟨k_F.tr (k_F.put k_F.rf rfl) g.1, g.2⟩)
      have := k_succ h1
      rw [Int32.lt_iff_toInt_lt] at h0 ⊢
      rw [this]
      have h00 : (0 : Int32).toInt = 0 := by decide
      omega
    · exact k_some ⟨k_F.puf k_F.rf rfl, k_b0⟩
    · exact k_some ⟨k_F.puf k_F.rf rfl, k_b0⟩
theorem q_Pa_keepDraft (d : Nat) (hd : 1 ≤ d) (s : c_S) : k_ok (c_M d 188 [v_r 24] s) (fun σ r => k_F [24, 25] [(1, 1), (27, 5), (27, 10), (27, 11)] s σ ∧ k_b 0 r) := by
  obtain ⟨d, rfl⟩ : ∃ e, d = e + 1 := ⟨d - 1, by omega⟩
  rw [m_Pa_keepDraft, e_Pa_keepDraft_0]
  exact q_Pa_keepDraft_2 d _ _ _ (by decide) (Nat.lt_succ_self _)
theorem q_Co_name_29 (d : Nat) (hd : 1 ≤ d) (a : Nat) (ha : a < 100) : ∀ (n : Nat) (i2 i3 : Int32) (b : Nat) (s : c_S), s.1 11 7 = nI a → 12 ≤ b + n → b ≤ 12 → k_ok (b_Co_name_29 (c_M d) i2 i3 (nI (12 * a)) (nI b) s) (fun σ r => k_F [12, 13] [(1, 1), (27, 5), (27, 10), (27, 11)] s σ ∧ k_b 0 r) := by
  intro n
  induction n with
  | zero =>
    intro i2 i3 b s hs h1 h2
    have hb : b = 12 := by omega
    subst hb
    have fin : k_ok (c_rg (s.1 11 7) 100 (some ((c_put s 13 ((s.1 11 7).toNatClampNeg) i3), 0))) (fun σ r => k_F [12, 13] [(1, 1), (27, 5), (27, 10), (27, 11)] s σ ∧ k_b 0 r) := by
      refine k_rg ?_ (k_some ⟨k_F.put k_F.rf rfl, k_b0⟩)
      rw [hs]; exact decide_eq_true (nI_in ha (by decide))
    rw [e_Co_name_29]
    exact k_if (fun _ => k_if (fun h => absurd h (by decide)) (fun _ => fin)) (fun _ => fin)
  | succ n ih =>
    intro i2 i3 b s hs h1 h2
    have fin : k_ok (c_rg (s.1 11 7) 100 (some ((c_put s 13 ((s.1 11 7).toNatClampNeg) i3), 0))) (fun σ r => k_F [12, 13] [(1, 1), (27, 5), (27, 10), (27, 11)] s σ ∧ k_b 0 r) := by
      refine k_rg ?_ (k_some ⟨k_F.put k_F.rf rfl, k_b0⟩)
      rw [hs]; exact decide_eq_true (nI_in ha (by decide))
    rw [e_Co_name_29]
    refine k_if (fun _ => k_if (fun h => ?_) (fun _ => fin)) (fun _ => fin)
    have hb : b < 12 := (nI_ltI (a := b) (b := 12) (by omega) (by decide)).mp h
    refine k_bd (q_Ta_signAt d hd _ _) (fun s_1 x_1 g_1 => ?_)
    obtain ⟨rfl, b_1⟩ := g_1
    refine k_rg ?_ ?_
    · rw [nI_add]; exact decide_eq_true (nI_in (by omega) (by decide))
    · rw [nI_1]
      refine k_mono (ih _ _ _ _ ?_ (by omega) (by omega)) (fun σ r g => ⟨k_F.tr (k_F.put k_F.rf rfl) g.1, g.2⟩)
      rw [c_put_off (by decide)]; exact hs
theorem nI_mul (a b : Nat) : nI a * nI b = nI (a * b) := (Int32.ofNat_mul a b).symm
theorem q_Co_name (d : Nat) (hd : 2 ≤ d) (i2 : Int32) (i3 : Int32) (s : c_S) : k_ok (c_M d 138 [v_r 11, v_r 1, v_i i2, v_i i3] s) (fun σ r => k_F [12, 13] [(1, 1), (27, 5), (27, 10), (27, 11)] s σ ∧ k_b 0 r) := by
  obtain ⟨d, rfl⟩ : ∃ e, d = e + 1 := ⟨d - 1, by omega⟩
  rw [m_Co_name, e_Co_name_0]
  refine k_if (fun _ => k_some ⟨k_F.rf, k_b0⟩) (fun h0 => k_if (fun h1 => ?_) (fun _ => k_some ⟨k_F.rf, k_b0⟩))
  obtain ⟨a, ha, e⟩ := nI_of h0
  have ha2 : a < 100 := (nI_ltI (a := a) (b := 100) ha (by decide)).mp (by rw [← e]; exact h1)
  have hm : s.1 11 7 * 12 = nI (12 * a) := by
    rw [e, Nat.mul_comm]; exact nI_mul a 12
  rw [hm]
  exact q_Co_name_29 d (by omega) a ha2 12 i2 i3 0 s e (by omega) (by omega)

theorem q_Wr_putVariable_2 (d : Nat) (hd : 3 ≤ d + 1) : ∀ (n : Nat) (i1 : Int32) (i2 : Int32) (s : c_S), k_m i2 < n → k_ok (b_Wr_putVariable_2 (c_M d) i1 i2 s) (fun σ r => k_F [18, 24, 26] [(1, 1), (27, 5), (27, 10), (27, 11)] s σ ∧ k_b 0 r)
  | 0, i1, i2, s, hn => absurd hn (Nat.not_lt_zero _)
  | n + 1, i1, i2, s, hn => by
    rw [e_Wr_putVariable_2]
    refine k_if (fun h1 => ?_) (fun h1 => ?_)
    ·
      refine k_bd (q_Pa_put d (by omega) _ _) (fun s_2 x_2 g_2 => ?_)
      have f_2 : k_F [18, 24, 26] [(1, 1), (27, 5), (27, 10), (27, 11)] s s_2 := k_F.tr k_F.rf (k_F.mono g_2.1 rfl)
      exact k_mono (q_Wr_putVariable_2 d hd n _ _ _ (k_up h1 hn)) (fun σ r g => ⟨k_F.tr f_2 g.1, g.2⟩)
    ·
      refine k_if (fun h3 => ?_) (fun h3 => ?_)
      ·
        rw [e_Wr_putVariable_48]
        refine k_bd (q_Pa_put d (by omega) _ _) (fun s_4 x_4 g_4 => ?_)
        have f_4 : k_F [18, 24, 26] [(1, 1), (27, 5), (27, 10), (27, 11)] s s_4 := k_F.tr k_F.rf (k_F.mono g_4.1 rfl)
        exact k_some ⟨f_4, k_b0⟩
      ·
        refine k_bd (q_Pa_put d (by omega) _ _) (fun s_5 x_5 g_5 => ?_)
        have f_5 : k_F [18, 24, 26] [(1, 1), (27, 5), (27, 10), (27, 11)] s s_5 := k_F.tr k_F.rf (k_F.mono g_5.1 rfl)
        rw [e_Wr_putVariable_48]
        refine k_bd (q_Pa_put d (by omega) _ _) (fun s_6 x_6 g_6 => ?_)
        have f_6 : k_F [18, 24, 26] [(1, 1), (27, 5), (27, 10), (27, 11)] s s_6 := k_F.tr f_5 (k_F.mono g_6.1 rfl)
        exact k_some ⟨f_6, k_b0⟩
theorem q_Wr_putVariable (d : Nat) (hd : 3 ≤ d) (i1 : Int32) (s : c_S) : k_ok (c_M d 233 [v_r 33, v_i i1] s) (fun σ r => k_F [18, 24, 26] [(1, 1), (27, 5), (27, 10), (27, 11)] s σ ∧ k_b 0 r) := by
  obtain ⟨d, rfl⟩ : ∃ e, d = e + 1 := ⟨d - 1, by omega⟩
  rw [m_Wr_putVariable, e_Wr_putVariable_0]
  exact k_mono (q_Wr_putVariable_2 d hd _ _ _ _ (Nat.lt_succ_self _)) (fun σ r g => ⟨k_F.tr k_F.rf g.1, g.2⟩)
theorem q_Wr_putName_2 (d : Nat) (hd : 3 ≤ d + 1) : ∀ (n : Nat) (i1 : Int32) (i2 : Int32) (s : c_S), k_m i2 < n → k_ok (b_Wr_putName_2 (c_M d) i1 i2 s) (fun σ r => k_F [18, 24, 26] [(1, 1), (27, 5), (27, 10), (27, 11)] s σ ∧ k_b 0 r)
  | 0, i1, i2, s, hn => absurd hn (Nat.not_lt_zero _)
  | n + 1, i1, i2, s, hn => by
    rw [e_Wr_putName_2]
    refine k_bd (q_Co_nameLength d (by omega) _ _) (fun s_1 x_1 g_1 => ?_)
    obtain ⟨e_1, b_1⟩ := g_1
    have e_1 := e_1.symm
    subst e_1
    refine k_if (fun h2 => ?_) (fun h2 => ?_)
    ·
      refine k_bd (q_Co_nameSign d (by omega) _ _ _) (fun s_3 x_3 g_3 => ?_)
      obtain ⟨e_3, b_3⟩ := g_3
      have e_3 := e_3.symm
      subst e_3
      refine k_bd (q_Pa_put d (by omega) _ _) (fun s_4 x_4 g_4 => ?_)
      have f_4 : k_F [18, 24, 26] [(1, 1), (27, 5), (27, 10), (27, 11)] s s_4 := k_F.tr k_F.rf (k_F.mono g_4.1 rfl)
      exact k_mono (q_Wr_putName_2 d hd n _ _ _ (k_up h2 hn)) (fun σ r g => ⟨k_F.tr f_4 g.1, g.2⟩)
    ·
      exact k_some ⟨k_F.rf, k_b0⟩
theorem q_Wr_putName (d : Nat) (hd : 3 ≤ d) (i1 : Int32) (s : c_S) : k_ok (c_M d 232 [v_r 33, v_i i1] s) (fun σ r => k_F [18, 24, 26] [(1, 1), (27, 5), (27, 10), (27, 11)] s σ ∧ k_b 0 r) := by
  obtain ⟨d, rfl⟩ : ∃ e, d = e + 1 := ⟨d - 1, by omega⟩
  rw [m_Wr_putName, e_Wr_putName_0]
  exact k_mono (q_Wr_putName_2 d hd _ _ _ _ (Nat.lt_succ_self _)) (fun σ r g => ⟨k_F.tr k_F.rf g.1, g.2⟩)
theorem q_Wr_putHead (d : Nat) (hd : 4 ≤ d) (i1 : Int32) (s : c_S) : k_ok (c_M d 230 [v_r 33, v_i i1] s) (fun σ r => k_F [18, 24, 26] [(1, 1), (27, 5), (27, 10), (27, 11)] s σ ∧ k_b 0 r) := by
  obtain ⟨d, rfl⟩ : ∃ e, d = e + 1 := ⟨d - 1, by omega⟩
  rw [m_Wr_putHead, e_Wr_putHead_0]
  refine k_if (fun h1 => ?_) (fun h1 => ?_)
  ·
    refine k_bd (q_Ce_numberOf d (by omega) _ _) (fun s_2 x_2 g_2 => ?_)
    obtain ⟨e_2, b_2⟩ := g_2
    have e_2 := e_2.symm
    subst e_2
    refine k_bd (q_Wr_putVariable d (by omega) _ _) (fun s_3 x_3 g_3 => ?_)
    have f_3 : k_F [18, 24, 26] [(1, 1), (27, 5), (27, 10), (27, 11)] s s_3 := k_F.tr k_F.rf (k_F.mono g_3.1 rfl)
    exact k_some ⟨f_3, k_b0⟩
  ·
    refine k_bd (q_Wr_putName d (by omega) _ _) (fun s_4 x_4 g_4 => ?_)
    have f_4 : k_F [18, 24, 26] [(1, 1), (27, 5), (27, 10), (27, 11)] s s_4 := k_F.tr k_F.rf (k_F.mono g_4.1 rfl)
    exact k_some ⟨f_4, k_b0⟩
/-! levels: the class's questions within one another -/
def k_J (D L t : Int32) : Prop := (t = 0 ∧ L = D) ∨ (D.toInt ≤ 100 ∧ D.toInt ≤ L.toInt ∧ L.toInt ≤ 101)
def k_lt (D E : Int32) : Prop := D.toInt ≤ 100 ∧ D.toInt < E.toInt ∧ E.toInt ≤ 102
def k_mu (D : Int32) : Nat := (103 - D.toInt).toNat
theorem k_lt.mu {D E : Int32} (h : k_lt D E) : k_mu E < k_mu D := by
  unfold k_lt at h; unfold k_mu; omega
theorem k_100 {L : Int32} : ¬ (100 : Int32) < L ↔ L.toInt ≤ 100 := by
  rw [Int32.lt_iff_toInt_lt, show (100 : Int32).toInt = 100 from by decide]; omega
theorem k_Lp {L : Int32} (h : L.toInt ≤ 101) : (L + 1).toInt = L.toInt + 1 := by
  have h2 := Int32.le_toInt L
  rw [Int32.toInt_add, show (1 : Int32).toInt = 1 from by decide, Int.bmod_def]
  omega
theorem k_Jle {D L t : Int32} (h : k_J D L t) (hq : ¬ (100 : Int32) < L) : D.toInt ≤ 100 ∧ D.toInt ≤ L.toInt ∧ L.toInt ≤ 101 := by
  have h1 := k_100.mp hq
  rcases h with ⟨-, rfl⟩ | h
  · omega
  · exact h
theorem k_Jle2 {D L t : Int32} (h : k_J D L t) (ht : (100 : Int32) < t) : D.toInt ≤ 100 ∧ D.toInt ≤ L.toInt ∧ L.toInt ≤ 101 := by
  rcases h with ⟨rfl, -⟩ | h
  · exact absurd ht (by decide)
  · exact h
theorem k_Jto {D L : Int32} (h : D.toInt ≤ 100 ∧ D.toInt ≤ L.toInt ∧ L.toInt ≤ 101) : k_lt D (L + 1) := by
  unfold k_lt; rw [k_Lp h.2.2]; omega
theorem k_Jup {D L t t2 : Int32} (h : k_J D L t) (hq : ¬ (100 : Int32) < L) : k_J D (L + 1) t2 := by
  have h2 := k_Jle h hq
  have h1 := k_100.mp hq
  refine Or.inr ?_
  rw [k_Lp h2.2.2]; omega
theorem k_J0 {D : Int32} : k_J D D 0 := Or.inl ⟨rfl, rfl⟩
theorem q2_Me_question (d : Nat) (hd : 3 ≤ d) (i1 : Int32) (s : c_S) : k_ok (c_M d 167 [v_r 18, v_i i1] s) (fun σ r => k_F [18] [(1, 1), (27, 5), (27, 10), (27, 11)] s σ ∧ k_b 2 r ∧ (¬ r = 0 → ¬ (100 : Int32) < i1)) := by
  obtain ⟨σ, r, e, f, b⟩ := q_Me_question d hd i1 s
  refine ⟨σ, r, e, f, b, fun hr h => hr ?_⟩
  obtain ⟨d, rfl⟩ : ∃ e, d = e + 3 := ⟨d - 3, by omega⟩
  rw [m_Me_question, e_Me_question_0, if_pos h] at e
  have hs : ∃ t, c_M (d + 2) 165 [v_r 18, v_i 10] s = some (t, 0) ∧ ¬ t.1 18 2 = 0 := by
    rw [m_Me_stop, e_Me_stop_0]
    by_cases h : s.1 18 2 = 0
    · rw [if_pos h]; exact ⟨_, rfl, by rw [c_put_same]; decide⟩
    · rw [if_neg h]; exact ⟨_, rfl, h⟩
  obtain ⟨t, e1, h1⟩ := hs
  have h25 : ∀ u : c_S, ¬ u.1 18 2 = 0 → b_Me_step_25 (c_M (d + 1)) u = some (u, 0) := fun u hu => by rw [e_Me_step_25, if_neg hu]
  have h19 : ∃ u, b_Me_step_19 (c_M (d + 1)) t = some (u, 0) := by
    rw [e_Me_step_19, m_Me_stop, e_Me_stop_0, if_neg h1, c_bd_some]
    exact ⟨_, h25 _ h1⟩
  have hst : ∃ u, c_M (d + 2) 166 [v_r 18] t = some (u, 0) := by
    rw [m_Me_step, e_Me_step_0]
    split
    · split
      · exact ⟨_, h25 _ h1⟩
      · exact h19
    · exact h19
  obtain ⟨u, e2⟩ := hst
  rw [e1, c_bd_some, e_Me_question_12, e2, c_bd_some, if_pos (by decide)] at e
  have := Option.some.inj e
  exact (Prod.mk.inj this).2.symm

theorem q_Ju_meet_19 (d : Nat) (hd : 4 ≤ d) (D : Int32) : ∀ (n : Nat) (i2 : Int32) (i3 : Int32) (i5 : Int32) (i6 : Int32) (i7 : Int32) (i8 : Int32) (i9 : Int32) (i10 : Int32) (s : c_S), k_J D i7 i10 → k_m i10 < n → k_ok (b_Ju_meet_19 (c_M d) i2 i3 i5 i6 i7 i8 i9 i10 s) (fun σ r => k_F [18, 19, 20, 21, 22, 23, 30, 31] [(1, 1), (27, 5), (27, 10), (27, 11)] s σ ∧ k_b 2 r ∧ (r = 0 ∨ (D.toInt ≤ 100 ∧ D.toInt ≤ (σ.1 31 8).toInt ∧ (σ.1 31 8).toInt ≤ 101)))
  | 0, i2, i3, i5, i6, i7, i8, i9, i10, s, hJ, hn => absurd hn (Nat.not_lt_zero _)
  | n + 1, i2, i3, i5, i6, i7, i8, i9, i10, s, hJ, hn => by
    rw [e_Ju_meet_19]
    refine k_if (fun h1 => ?_) (fun h1 => ?_)
    ·
      rw [e_Ju_meet_166]
      refine k_bd (q_Ce_term d (by omega) _ _) (fun s_2 x_2 g_2 => ?_)
      obtain ⟨e_2, b_2⟩ := g_2
      have e_2 := e_2.symm
      subst e_2
      refine k_bd (q_Ce_scope d (by omega) _ _) (fun s_3 x_3 g_3 => ?_)
      obtain ⟨e_3, b_3⟩ := g_3
      have e_3 := e_3.symm
      subst e_3
      refine k_bd (q_Ma_headForm d (by omega) _ _ _ _) (fun s_4 x_4 g_4 => ?_)
      have f_4 : k_F [18, 19, 20, 21, 22, 23, 30, 31] [(1, 1), (27, 5), (27, 10), (27, 11)] s s_4 := k_F.tr k_F.rf (k_F.mono g_4.1 rfl)
      refine k_if (fun h5 => ?_) (fun h5 => ?_)
      ·
        exact k_some ⟨f_4, (k_b2 (by decide)), Or.inl rfl⟩
      ·
        refine k_bd (q_Ma_head d (by omega)  _) (fun s_6 x_6 g_6 => ?_)
        obtain ⟨e_6, b_6⟩ := g_6
        have e_6 := e_6.symm
        subst e_6
        refine k_bd (q_Ma_row d (by omega)  _) (fun s_7 x_7 g_7 => ?_)
        obtain ⟨e_7, b_7⟩ := g_7
        have e_7 := e_7.symm
        subst e_7
        rw [e_Ju_meet_216]
        refine k_bd (q_Ce_term d (by omega) _ _) (fun s_8 x_8 g_8 => ?_)
        obtain ⟨e_8, b_8⟩ := g_8
        have e_8 := e_8.symm
        subst e_8
        refine k_bd (q_Ce_scope d (by omega) _ _) (fun s_9 x_9 g_9 => ?_)
        obtain ⟨e_9, b_9⟩ := g_9
        have e_9 := e_9.symm
        subst e_9
        refine k_bd (q_Ma_headForm d (by omega) _ _ _ _) (fun s_10 x_10 g_10 => ?_)
        have f_10 : k_F [18, 19, 20, 21, 22, 23, 30, 31] [(1, 1), (27, 5), (27, 10), (27, 11)] s s_10 := k_F.tr (k_F.puf f_4 rfl) (k_F.mono g_10.1 rfl)
        refine k_if (fun h11 => ?_) (fun h11 => ?_)
        ·
          exact k_some ⟨f_10, (k_b2 (by decide)), Or.inl rfl⟩
        ·
          refine k_bd (q_Ma_row d (by omega)  _) (fun s_12 x_12 g_12 => ?_)
          obtain ⟨e_12, b_12⟩ := g_12
          have e_12 := e_12.symm
          subst e_12
          refine k_bd (q_Ma_headType d (by omega)  _) (fun s_13 x_13 g_13 => ?_)
          obtain ⟨e_13, b_13⟩ := g_13
          have e_13 := e_13.symm
          subst e_13
          rw [e_Ju_meet_274]
          refine k_bd (q_Ma_head d (by omega)  _) (fun s_14 x_14 g_14 => ?_)
          obtain ⟨e_14, b_14⟩ := g_14
          have e_14 := e_14.symm
          subst e_14
          refine k_if (fun h15 => ?_) (fun h15 => ?_)
          ·
            refine k_bd (q_Ju_sameLength d (by omega) _ _ _) (fun s_16 x_16 g_16 => ?_)
            obtain ⟨e_16, b_16⟩ := g_16
            have e_16 := e_16.symm
            subst e_16
            refine k_if (fun h17 => ?_) (fun h17 => ?_)
            ·
              exact k_some ⟨(k_F.puf (k_F.puf (k_F.puf f_10 rfl) rfl) rfl), (k_b2 (by decide)), Or.inl rfl⟩
            ·
              exact k_some ⟨(k_F.puf (k_F.puf (k_F.puf f_10 rfl) rfl) rfl), (k_b2 (by decide)), Or.inr (by rw [c_put_same]; exact (k_Jle2 hJ h1))⟩
          ·
            exact k_some ⟨(k_F.puf (k_F.puf (k_F.puf f_10 rfl) rfl) rfl), (k_b2 (by decide)), Or.inl rfl⟩
    ·
      refine k_bd (q2_Me_question d (by omega) _ _) (fun s_18 x_18 g_18 => ?_)
      have f_18 : k_F [18, 19, 20, 21, 22, 23, 30, 31] [(1, 1), (27, 5), (27, 10), (27, 11)] s s_18 := k_F.tr k_F.rf (k_F.mono g_18.1 rfl)
      refine k_if (fun h19 => ?_) (fun h19 => ?_)
      ·
        exact k_some ⟨f_18, (k_b2 (by decide)), Or.inl rfl⟩
      ·
        refine k_bd (q_Ma_expose d (by omega) _ _ _) (fun s_20 x_20 g_20 => ?_)
        have f_20 : k_F [18, 19, 20, 21, 22, 23, 30, 31] [(1, 1), (27, 5), (27, 10), (27, 11)] s s_20 := k_F.tr f_18 (k_F.mono g_20.1 rfl)
        refine k_bd (q_Ma_shape d (by omega)  _) (fun s_21 x_21 g_21 => ?_)
        obtain ⟨e_21, b_21⟩ := g_21
        have e_21 := e_21.symm
        subst e_21
        refine k_bd (q_Ma_shapeScope d (by omega)  _) (fun s_22 x_22 g_22 => ?_)
        obtain ⟨e_22, b_22⟩ := g_22
        have e_22 := e_22.symm
        subst e_22
        rw [e_Ju_meet_69]
        refine k_bd (q_No_isArrow d (by omega) _ _) (fun s_23 x_23 g_23 => ?_)
        obtain ⟨e_23, b_23⟩ := g_23
        have e_23 := e_23.symm
        subst e_23
        refine k_if (fun h24 => ?_) (fun h24 => ?_)
        ·
          rw [e_Ju_meet_166]
          refine k_bd (q_Ce_term d (by omega) _ _) (fun s_25 x_25 g_25 => ?_)
          obtain ⟨e_25, b_25⟩ := g_25
          have e_25 := e_25.symm
          subst e_25
          refine k_bd (q_Ce_scope d (by omega) _ _) (fun s_26 x_26 g_26 => ?_)
          obtain ⟨e_26, b_26⟩ := g_26
          have e_26 := e_26.symm
          subst e_26
          refine k_bd (q_Ma_headForm d (by omega) _ _ _ _) (fun s_27 x_27 g_27 => ?_)
          have f_27 : k_F [18, 19, 20, 21, 22, 23, 30, 31] [(1, 1), (27, 5), (27, 10), (27, 11)] s s_27 := k_F.tr f_20 (k_F.mono g_27.1 rfl)
          refine k_if (fun h28 => ?_) (fun h28 => ?_)
          ·
            exact k_some ⟨f_27, (k_b2 (by decide)), Or.inl rfl⟩
          ·
            refine k_bd (q_Ma_head d (by omega)  _) (fun s_29 x_29 g_29 => ?_)
            obtain ⟨e_29, b_29⟩ := g_29
            have e_29 := e_29.symm
            subst e_29
            refine k_bd (q_Ma_row d (by omega)  _) (fun s_30 x_30 g_30 => ?_)
            obtain ⟨e_30, b_30⟩ := g_30
            have e_30 := e_30.symm
            subst e_30
            rw [e_Ju_meet_216]
            refine k_bd (q_Ce_term d (by omega) _ _) (fun s_31 x_31 g_31 => ?_)
            obtain ⟨e_31, b_31⟩ := g_31
            have e_31 := e_31.symm
            subst e_31
            refine k_bd (q_Ce_scope d (by omega) _ _) (fun s_32 x_32 g_32 => ?_)
            obtain ⟨e_32, b_32⟩ := g_32
            have e_32 := e_32.symm
            subst e_32
            refine k_bd (q_Ma_headForm d (by omega) _ _ _ _) (fun s_33 x_33 g_33 => ?_)
            have f_33 : k_F [18, 19, 20, 21, 22, 23, 30, 31] [(1, 1), (27, 5), (27, 10), (27, 11)] s s_33 := k_F.tr (k_F.puf f_27 rfl) (k_F.mono g_33.1 rfl)
            refine k_if (fun h34 => ?_) (fun h34 => ?_)
            ·
              exact k_some ⟨f_33, (k_b2 (by decide)), Or.inl rfl⟩
            ·
              refine k_bd (q_Ma_row d (by omega)  _) (fun s_35 x_35 g_35 => ?_)
              obtain ⟨e_35, b_35⟩ := g_35
              have e_35 := e_35.symm
              subst e_35
              refine k_bd (q_Ma_headType d (by omega)  _) (fun s_36 x_36 g_36 => ?_)
              obtain ⟨e_36, b_36⟩ := g_36
              have e_36 := e_36.symm
              subst e_36
              rw [e_Ju_meet_274]
              refine k_bd (q_Ma_head d (by omega)  _) (fun s_37 x_37 g_37 => ?_)
              obtain ⟨e_37, b_37⟩ := g_37
              have e_37 := e_37.symm
              subst e_37
              refine k_if (fun h38 => ?_) (fun h38 => ?_)
              ·
                refine k_bd (q_Ju_sameLength d (by omega) _ _ _) (fun s_39 x_39 g_39 => ?_)
                obtain ⟨e_39, b_39⟩ := g_39
                have e_39 := e_39.symm
                subst e_39
                refine k_if (fun h40 => ?_) (fun h40 => ?_)
                ·
                  exact k_some ⟨(k_F.puf (k_F.puf (k_F.puf f_33 rfl) rfl) rfl), (k_b2 (by decide)), Or.inl rfl⟩
                ·
                  exact k_some ⟨(k_F.puf (k_F.puf (k_F.puf f_33 rfl) rfl) rfl), (k_b2 (by decide)), Or.inr (by rw [c_put_same]; exact (k_Jle hJ (g_18.2.2 h19)))⟩
              ·
                exact k_some ⟨(k_F.puf (k_F.puf (k_F.puf f_33 rfl) rfl) rfl), (k_b2 (by decide)), Or.inl rfl⟩
        ·
          refine k_bd (q_No_left d (by omega) _ _) (fun s_41 x_41 g_41 => ?_)
          obtain ⟨e_41, b_41⟩ := g_41
          have e_41 := e_41.symm
          subst e_41
          refine k_bd (q_Ce_newVariable d (by omega) _ _ _ _) (fun s_42 x_42 g_42 => ?_)
          have f_42 : k_F [18, 19, 20, 21, 22, 23, 30, 31] [(1, 1), (27, 5), (27, 10), (27, 11)] s s_42 := k_F.tr f_20 (k_F.mono g_42.1 rfl)
          refine k_bd (q_Ce_append d (by omega) _ _ _) (fun s_43 x_43 g_43 => ?_)
          have f_43 : k_F [18, 19, 20, 21, 22, 23, 30, 31] [(1, 1), (27, 5), (27, 10), (27, 11)] s s_43 := k_F.tr f_42 (k_F.mono g_43.1 rfl)
          rw [e_Ju_meet_118]
          refine k_bd (q_Ce_append d (by omega) _ _ _) (fun s_44 x_44 g_44 => ?_)
          have f_44 : k_F [18, 19, 20, 21, 22, 23, 30, 31] [(1, 1), (27, 5), (27, 10), (27, 11)] s s_44 := k_F.tr f_43 (k_F.mono g_44.1 rfl)
          refine k_bd (q_Ce_enter d (by omega) _ _ _ _) (fun s_45 x_45 g_45 => ?_)
          have f_45 : k_F [18, 19, 20, 21, 22, 23, 30, 31] [(1, 1), (27, 5), (27, 10), (27, 11)] s s_45 := k_F.tr f_44 (k_F.mono g_45.1 rfl)
          refine k_bd (q_No_right d (by omega) _ _) (fun s_46 x_46 g_46 => ?_)
          obtain ⟨e_46, b_46⟩ := g_46
          have e_46 := e_46.symm
          subst e_46
          rw [e_Ju_meet_157]
          exact k_mono (q_Ju_meet_19 d hd D n _ _ _ _ _ _ _ _ _ (k_Jup hJ (g_18.2.2 h19)) (k_upn h1 (by decide) hn)) (fun σ r g => ⟨k_F.tr f_45 g.1, g.2⟩)
theorem q_Ju_meet (d : Nat) (hd : 5 ≤ d) (i1 i2 i3 D : Int32) (s : c_S) : k_ok (c_M d 149 [v_r 31, v_i i1, v_i i2, v_i i3, v_i D] s) (fun σ r => k_F [18, 19, 20, 21, 22, 23, 30, 31] [(1, 1), (27, 5), (27, 10), (27, 11)] s σ ∧ k_b 2 r ∧ (r = 0 ∨ (D.toInt ≤ 100 ∧ D.toInt ≤ (σ.1 31 8).toInt ∧ (σ.1 31 8).toInt ≤ 101))) := by
  obtain ⟨d, rfl⟩ : ∃ e, d = e + 1 := ⟨d - 1, by omega⟩
  rw [m_Ju_meet, e_Ju_meet_0, e_Ju_meet_16]
  exact q_Ju_meet_19 d (by omega) D _ _ _ _ _ _ _ _ _ _ k_J0 (Nat.lt_succ_self _)
theorem k_met {D r E : Int32} (h : r = 0 ∨ (D.toInt ≤ 100 ∧ D.toInt ≤ E.toInt ∧ E.toInt ≤ 101)) (hr : ¬ r = 0) : k_lt D (E + 1) := k_Jto (h.resolve_left hr)
theorem q_Ju_rows_12 (d : Nat) (hd : 5 ≤ d) (D : Int32) (ih : ∀ (a b c E : Int32) (t : c_S), k_lt D E → k_ok (c_M d 148 [v_r 31, v_i a, v_i b, v_i c, v_i E] t) (fun σ r => k_F [18, 19, 20, 21, 22, 23, 30, 31] [(1, 1), (27, 5), (27, 10), (27, 11)] t σ ∧ k_b 2 r)) : ∀ (n : Nat) (i5 : Int32) (i6 : Int32) (i7 : Int32) (i8 : Int32) (s : c_S), k_m i8 < n → k_ok (b_Ju_rows_12 (c_M d) D i5 i6 i7 i8 s) (fun σ r => k_F [18, 19, 20, 21, 22, 23, 30, 31] [(1, 1), (27, 5), (27, 10), (27, 11)] s σ ∧ k_b 2 r)
  | 0, i5, i6, i7, i8, s, hn => absurd hn (Nat.not_lt_zero _)
  | n + 1, i5, i6, i7, i8, s, hn => by
    rw [e_Ju_rows_12]
    refine k_if (fun h1 => ?_) (fun h1 => ?_)
    ·
      refine k_if (fun h2 => ?_) (fun h2 => ?_)
      ·
        rw [e_Ju_rows_143]
        refine k_if (fun h3 => ?_) (fun h3 => ?_)
        ·
          refine k_if (fun h4 => ?_) (fun h4 => ?_)
          ·
            refine k_bd (q_Me_trouble d (by omega)  _) (fun s_5 x_5 g_5 => ?_)
            obtain ⟨e_5, b_5⟩ := g_5
            have e_5 := e_5.symm
            subst e_5
            refine k_if (fun h6 => ?_) (fun h6 => ?_)
            ·
              exact k_some ⟨k_F.rf, (k_b2 (by decide))⟩
            ·
              exact k_some ⟨k_F.rf, (k_b2 (by decide))⟩
          ·
            exact k_some ⟨k_F.rf, (k_b2 (by decide))⟩
        ·
          exact k_some ⟨k_F.rf, (k_b2 (by decide))⟩
      ·
        refine k_if (fun h7 => ?_) (fun h7 => ?_)
        ·
          rw [e_Ju_rows_143]
          refine k_if (fun h8 => ?_) (fun h8 => ?_)
          ·
            refine k_if (fun h9 => ?_) (fun h9 => ?_)
            ·
              refine k_bd (q_Me_trouble d (by omega)  _) (fun s_10 x_10 g_10 => ?_)
              obtain ⟨e_10, b_10⟩ := g_10
              have e_10 := e_10.symm
              subst e_10
              refine k_if (fun h11 => ?_) (fun h11 => ?_)
              ·
                exact k_some ⟨k_F.rf, (k_b2 (by decide))⟩
              ·
                exact k_some ⟨k_F.rf, (k_b2 (by decide))⟩
            ·
              exact k_some ⟨k_F.rf, (k_b2 (by decide))⟩
          ·
            exact k_some ⟨k_F.rf, (k_b2 (by decide))⟩
        ·
          refine k_bd (q_Ce_mark d (by omega)  _) (fun s_12 x_12 g_12 => ?_)
          obtain ⟨e_12, b_12⟩ := g_12
          have e_12 := e_12.symm
          subst e_12
          refine k_bd (q_Ce_next d (by omega) _ _) (fun s_13 x_13 g_13 => ?_)
          obtain ⟨e_13, b_13⟩ := g_13
          have e_13 := e_13.symm
          subst e_13
          rw [e_Ju_rows_49]
          refine k_bd (q_Ce_next d (by omega) _ _) (fun s_14 x_14 g_14 => ?_)
          obtain ⟨e_14, b_14⟩ := g_14
          have e_14 := e_14.symm
          subst e_14
          refine k_bd (q_No_left d (by omega) _ _) (fun s_15 x_15 g_15 => ?_)
          obtain ⟨e_15, b_15⟩ := g_15
          have e_15 := e_15.symm
          subst e_15
          refine k_bd (q_Ju_meet d (by omega) _ _ _ _ _) (fun s_16 x_16 g_16 => ?_)
          have f_16 : k_F [18, 19, 20, 21, 22, 23, 30, 31] [(1, 1), (27, 5), (27, 10), (27, 11)] s s_16 := k_F.tr k_F.rf (k_F.mono g_16.1 rfl)
          refine k_if (fun h17 => ?_) (fun h17 => ?_)
          ·
            exact k_some ⟨f_16, (k_b2 (by decide))⟩
          ·
            refine k_bd (ih _ _ _ _ _ (k_met g_16.2.2 h17)) (fun s_18 x_18 g_18 => ?_)
            have f_18 : k_F [18, 19, 20, 21, 22, 23, 30, 31] [(1, 1), (27, 5), (27, 10), (27, 11)] s s_18 := k_F.tr f_16 (k_F.mono g_18.1 rfl)
            refine k_if (fun h19 => ?_) (fun h19 => ?_)
            ·
              exact k_some ⟨f_18, (k_b2 (by decide))⟩
            ·
              refine k_bd (q_Ce_release d (by omega) _ _) (fun s_20 x_20 g_20 => ?_)
              have f_20 : k_F [18, 19, 20, 21, 22, 23, 30, 31] [(1, 1), (27, 5), (27, 10), (27, 11)] s s_20 := k_F.tr f_18 (k_F.mono g_20.1 rfl)
              rw [e_Ju_rows_118]
              refine k_bd (q_No_right d (by omega) _ _) (fun s_21 x_21 g_21 => ?_)
              obtain ⟨e_21, b_21⟩ := g_21
              have e_21 := e_21.symm
              subst e_21
              exact k_mono (q_Ju_rows_12 d hd D ih n _ _ _ _ _ (k_up h1 hn)) (fun σ r g => ⟨k_F.tr f_20 g.1, g.2⟩)
    ·
      rw [e_Ju_rows_143]
      refine k_if (fun h22 => ?_) (fun h22 => ?_)
      ·
        refine k_if (fun h23 => ?_) (fun h23 => ?_)
        ·
          refine k_bd (q_Me_trouble d (by omega)  _) (fun s_24 x_24 g_24 => ?_)
          obtain ⟨e_24, b_24⟩ := g_24
          have e_24 := e_24.symm
          subst e_24
          refine k_if (fun h25 => ?_) (fun h25 => ?_)
          ·
            exact k_some ⟨k_F.rf, (k_b2 (by decide))⟩
          ·
            exact k_some ⟨k_F.rf, (k_b2 (by decide))⟩
        ·
          exact k_some ⟨k_F.rf, (k_b2 (by decide))⟩
      ·
        exact k_some ⟨k_F.rf, (k_b2 (by decide))⟩
theorem q_Ju_rows : ∀ (N d : Nat) (a b c D : Int32) (s : c_S), k_mu D < N → 5 + N ≤ d → k_ok (c_M d 148 [v_r 31, v_i a, v_i b, v_i c, v_i D] s) (fun σ r => k_F [18, 19, 20, 21, 22, 23, 30, 31] [(1, 1), (27, 5), (27, 10), (27, 11)] s σ ∧ k_b 2 r)
  | 0, _, _, _, _, _, _, h, _ => absurd h (Nat.not_lt_zero _)
  | N + 1, d, a, b, c, D, s, h, hd => by
    obtain ⟨d, rfl⟩ : ∃ e, d = e + 1 := ⟨d - 1, by omega⟩
    rw [m_Ju_rows, e_Ju_rows_0]
    exact q_Ju_rows_12 d (by omega) D (fun a b c E t hE => q_Ju_rows N d a b c E t (by have := hE.mu; omega) (by omega)) _ _ _ _ _ _ (Nat.lt_succ_self _)
theorem q_Ju_families_20 (d : Nat) (hd : 5 ≤ d) (D : Int32) (ih : ∀ (a b c e E : Int32) (t : c_S), k_lt D E → k_ok (c_M d 147 [v_r 31, v_i a, v_i b, v_i c, v_i e, v_i E] t) (fun σ r => k_F [18, 19, 20, 21, 22, 23, 30, 31] [(1, 1), (27, 5), (27, 10), (27, 11)] t σ ∧ k_b 2 r)) (hr : ∀ (a b c E : Int32) (t : c_S), k_lt D E → k_ok (c_M d 148 [v_r 31, v_i a, v_i b, v_i c, v_i E] t) (fun σ r => k_F [18, 19, 20, 21, 22, 23, 30, 31] [(1, 1), (27, 5), (27, 10), (27, 11)] t σ ∧ k_b 2 r)) : ∀ (n : Nat) (i6 : Int32) (i7 : Int32) (i8 : Int32) (i9 : Int32) (i10 : Int32) (i11 : Int32) (s : c_S), k_J D i10 i11 → k_m i11 < n → k_ok (b_Ju_families_20 (c_M d) i6 i7 i8 i9 i10 i11 s) (fun σ r => k_F [18, 19, 20, 21, 22, 23, 30, 31] [(1, 1), (27, 5), (27, 10), (27, 11)] s σ ∧ k_b 2 r)
  | 0, i6, i7, i8, i9, i10, i11, s, hJ, hn => absurd hn (Nat.not_lt_zero _)
  | n + 1, i6, i7, i8, i9, i10, i11, s, hJ, hn => by
    rw [e_Ju_families_20]
    refine k_if (fun h1 => ?_) (fun h1 => ?_)
    ·
      rw [e_Ju_families_261]
      refine k_bd (q_No_kind d (by omega) _ _) (fun s_2 x_2 g_2 => ?_)
      obtain ⟨e_2, b_2⟩ := g_2
      have e_2 := e_2.symm
      subst e_2
      refine k_if (fun h3 => ?_) (fun h3 => ?_)
      ·
        refine k_bd (q_No_kind d (by omega) _ _) (fun s_4 x_4 g_4 => ?_)
        obtain ⟨e_4, b_4⟩ := g_4
        have e_4 := e_4.symm
        subst e_4
        refine k_if (fun h5 => ?_) (fun h5 => ?_)
        ·
          refine k_bd (q_No_left d (by omega) _ _) (fun s_6 x_6 g_6 => ?_)
          obtain ⟨e_6, b_6⟩ := g_6
          have e_6 := e_6.symm
          subst e_6
          refine k_bd (q_No_left d (by omega) _ _) (fun s_7 x_7 g_7 => ?_)
          obtain ⟨e_7, b_7⟩ := g_7
          have e_7 := e_7.symm
          subst e_7
          refine k_if (fun h8 => ?_) (fun h8 => ?_)
          ·
            rw [e_Ju_families_315]
            refine k_if (fun h9 => ?_) (fun h9 => ?_)
            ·
              rw [e_Ju_families_377]
              exact k_some ⟨k_F.rf, (k_b2 (by decide))⟩
            ·
              refine k_bd (q_No_left d (by omega) _ _) (fun s_10 x_10 g_10 => ?_)
              obtain ⟨e_10, b_10⟩ := g_10
              have e_10 := e_10.symm
              subst e_10
              refine k_bd (q_Co_typeRoot d (by omega) _ _) (fun s_11 x_11 g_11 => ?_)
              obtain ⟨e_11, b_11⟩ := g_11
              have e_11 := e_11.symm
              subst e_11
              refine k_bd (q_Ma_push d (by omega) _ _ _ _) (fun s_12 x_12 g_12 => ?_)
              have f_12 : k_F [18, 19, 20, 21, 22, 23, 30, 31] [(1, 1), (27, 5), (27, 10), (27, 11)] s s_12 := k_F.tr k_F.rf (k_F.mono g_12.1 rfl)
              refine k_bd (q_Ma_push d (by omega) _ _ _ _) (fun s_13 x_13 g_13 => ?_)
              have f_13 : k_F [18, 19, 20, 21, 22, 23, 30, 31] [(1, 1), (27, 5), (27, 10), (27, 11)] s s_13 := k_F.tr f_12 (k_F.mono g_13.1 rfl)
              refine k_bd (hr _ _ _ _ _ (k_Jto (k_Jle2 hJ h1))) (fun s_14 x_14 g_14 => ?_)
              have f_14 : k_F [18, 19, 20, 21, 22, 23, 30, 31] [(1, 1), (27, 5), (27, 10), (27, 11)] s s_14 := k_F.tr f_13 (k_F.mono g_14.1 rfl)
              refine k_if (fun h15 => ?_) (fun h15 => ?_)
              ·
                rw [e_Ju_families_377]
                exact k_some ⟨f_14, (k_b2 (by decide))⟩
              ·
                rw [e_Ju_families_373]
                exact k_some ⟨f_14, (k_b2 (by decide))⟩
          ·
            rw [e_Ju_families_315]
            refine k_if (fun h16 => ?_) (fun h16 => ?_)
            ·
              rw [e_Ju_families_377]
              exact k_some ⟨k_F.rf, (k_b2 (by decide))⟩
            ·
              refine k_bd (q_No_left d (by omega) _ _) (fun s_17 x_17 g_17 => ?_)
              obtain ⟨e_17, b_17⟩ := g_17
              have e_17 := e_17.symm
              subst e_17
              refine k_bd (q_Co_typeRoot d (by omega) _ _) (fun s_18 x_18 g_18 => ?_)
              obtain ⟨e_18, b_18⟩ := g_18
              have e_18 := e_18.symm
              subst e_18
              refine k_bd (q_Ma_push d (by omega) _ _ _ _) (fun s_19 x_19 g_19 => ?_)
              have f_19 : k_F [18, 19, 20, 21, 22, 23, 30, 31] [(1, 1), (27, 5), (27, 10), (27, 11)] s s_19 := k_F.tr k_F.rf (k_F.mono g_19.1 rfl)
              refine k_bd (q_Ma_push d (by omega) _ _ _ _) (fun s_20 x_20 g_20 => ?_)
              have f_20 : k_F [18, 19, 20, 21, 22, 23, 30, 31] [(1, 1), (27, 5), (27, 10), (27, 11)] s s_20 := k_F.tr f_19 (k_F.mono g_20.1 rfl)
              refine k_bd (hr _ _ _ _ _ (k_Jto (k_Jle2 hJ h1))) (fun s_21 x_21 g_21 => ?_)
              have f_21 : k_F [18, 19, 20, 21, 22, 23, 30, 31] [(1, 1), (27, 5), (27, 10), (27, 11)] s s_21 := k_F.tr f_20 (k_F.mono g_21.1 rfl)
              refine k_if (fun h22 => ?_) (fun h22 => ?_)
              ·
                rw [e_Ju_families_377]
                exact k_some ⟨f_21, (k_b2 (by decide))⟩
              ·
                rw [e_Ju_families_373]
                exact k_some ⟨f_21, (k_b2 (by decide))⟩
        ·
          rw [e_Ju_families_315]
          refine k_if (fun h23 => ?_) (fun h23 => ?_)
          ·
            rw [e_Ju_families_377]
            exact k_some ⟨k_F.rf, (k_b2 (by decide))⟩
          ·
            refine k_bd (q_No_left d (by omega) _ _) (fun s_24 x_24 g_24 => ?_)
            obtain ⟨e_24, b_24⟩ := g_24
            have e_24 := e_24.symm
            subst e_24
            refine k_bd (q_Co_typeRoot d (by omega) _ _) (fun s_25 x_25 g_25 => ?_)
            obtain ⟨e_25, b_25⟩ := g_25
            have e_25 := e_25.symm
            subst e_25
            refine k_bd (q_Ma_push d (by omega) _ _ _ _) (fun s_26 x_26 g_26 => ?_)
            have f_26 : k_F [18, 19, 20, 21, 22, 23, 30, 31] [(1, 1), (27, 5), (27, 10), (27, 11)] s s_26 := k_F.tr k_F.rf (k_F.mono g_26.1 rfl)
            refine k_bd (q_Ma_push d (by omega) _ _ _ _) (fun s_27 x_27 g_27 => ?_)
            have f_27 : k_F [18, 19, 20, 21, 22, 23, 30, 31] [(1, 1), (27, 5), (27, 10), (27, 11)] s s_27 := k_F.tr f_26 (k_F.mono g_27.1 rfl)
            refine k_bd (hr _ _ _ _ _ (k_Jto (k_Jle2 hJ h1))) (fun s_28 x_28 g_28 => ?_)
            have f_28 : k_F [18, 19, 20, 21, 22, 23, 30, 31] [(1, 1), (27, 5), (27, 10), (27, 11)] s s_28 := k_F.tr f_27 (k_F.mono g_28.1 rfl)
            refine k_if (fun h29 => ?_) (fun h29 => ?_)
            ·
              rw [e_Ju_families_377]
              exact k_some ⟨f_28, (k_b2 (by decide))⟩
            ·
              rw [e_Ju_families_373]
              exact k_some ⟨f_28, (k_b2 (by decide))⟩
      ·
        rw [e_Ju_families_315]
        refine k_if (fun h30 => ?_) (fun h30 => ?_)
        ·
          rw [e_Ju_families_377]
          exact k_some ⟨k_F.rf, (k_b2 (by decide))⟩
        ·
          refine k_bd (q_No_left d (by omega) _ _) (fun s_31 x_31 g_31 => ?_)
          obtain ⟨e_31, b_31⟩ := g_31
          have e_31 := e_31.symm
          subst e_31
          refine k_bd (q_Co_typeRoot d (by omega) _ _) (fun s_32 x_32 g_32 => ?_)
          obtain ⟨e_32, b_32⟩ := g_32
          have e_32 := e_32.symm
          subst e_32
          refine k_bd (q_Ma_push d (by omega) _ _ _ _) (fun s_33 x_33 g_33 => ?_)
          have f_33 : k_F [18, 19, 20, 21, 22, 23, 30, 31] [(1, 1), (27, 5), (27, 10), (27, 11)] s s_33 := k_F.tr k_F.rf (k_F.mono g_33.1 rfl)
          refine k_bd (q_Ma_push d (by omega) _ _ _ _) (fun s_34 x_34 g_34 => ?_)
          have f_34 : k_F [18, 19, 20, 21, 22, 23, 30, 31] [(1, 1), (27, 5), (27, 10), (27, 11)] s s_34 := k_F.tr f_33 (k_F.mono g_34.1 rfl)
          refine k_bd (hr _ _ _ _ _ (k_Jto (k_Jle2 hJ h1))) (fun s_35 x_35 g_35 => ?_)
          have f_35 : k_F [18, 19, 20, 21, 22, 23, 30, 31] [(1, 1), (27, 5), (27, 10), (27, 11)] s s_35 := k_F.tr f_34 (k_F.mono g_35.1 rfl)
          refine k_if (fun h36 => ?_) (fun h36 => ?_)
          ·
            rw [e_Ju_families_377]
            exact k_some ⟨f_35, (k_b2 (by decide))⟩
          ·
            rw [e_Ju_families_373]
            exact k_some ⟨f_35, (k_b2 (by decide))⟩
    ·
      refine k_bd (q2_Me_question d (by omega) _ _) (fun s_37 x_37 g_37 => ?_)
      have f_37 : k_F [18, 19, 20, 21, 22, 23, 30, 31] [(1, 1), (27, 5), (27, 10), (27, 11)] s s_37 := k_F.tr k_F.rf (k_F.mono g_37.1 rfl)
      refine k_if (fun h38 => ?_) (fun h38 => ?_)
      ·
        exact k_some ⟨f_37, (k_b2 (by decide))⟩
      ·
        refine k_bd (q_Ma_expose d (by omega) _ _ _) (fun s_39 x_39 g_39 => ?_)
        have f_39 : k_F [18, 19, 20, 21, 22, 23, 30, 31] [(1, 1), (27, 5), (27, 10), (27, 11)] s s_39 := k_F.tr f_37 (k_F.mono g_39.1 rfl)
        refine k_bd (q_Ma_shape d (by omega)  _) (fun s_40 x_40 g_40 => ?_)
        obtain ⟨e_40, b_40⟩ := g_40
        have e_40 := e_40.symm
        subst e_40
        refine k_bd (q_Ma_shapeScope d (by omega)  _) (fun s_41 x_41 g_41 => ?_)
        obtain ⟨e_41, b_41⟩ := g_41
        have e_41 := e_41.symm
        subst e_41
        rw [e_Ju_families_70]
        refine k_bd (q_Ma_expose d (by omega) _ _ _) (fun s_42 x_42 g_42 => ?_)
        have f_42 : k_F [18, 19, 20, 21, 22, 23, 30, 31] [(1, 1), (27, 5), (27, 10), (27, 11)] s s_42 := k_F.tr f_39 (k_F.mono g_42.1 rfl)
        refine k_bd (q_Ma_shape d (by omega)  _) (fun s_43 x_43 g_43 => ?_)
        obtain ⟨e_43, b_43⟩ := g_43
        have e_43 := e_43.symm
        subst e_43
        refine k_bd (q_Ma_shapeScope d (by omega)  _) (fun s_44 x_44 g_44 => ?_)
        obtain ⟨e_44, b_44⟩ := g_44
        have e_44 := e_44.symm
        subst e_44
        refine k_bd (q_No_isArrow d (by omega) _ _) (fun s_45 x_45 g_45 => ?_)
        obtain ⟨e_45, b_45⟩ := g_45
        have e_45 := e_45.symm
        subst e_45
        refine k_if (fun h46 => ?_) (fun h46 => ?_)
        ·
          rw [e_Ju_families_261]
          refine k_bd (q_No_kind d (by omega) _ _) (fun s_47 x_47 g_47 => ?_)
          obtain ⟨e_47, b_47⟩ := g_47
          have e_47 := e_47.symm
          subst e_47
          refine k_if (fun h48 => ?_) (fun h48 => ?_)
          ·
            refine k_bd (q_No_kind d (by omega) _ _) (fun s_49 x_49 g_49 => ?_)
            obtain ⟨e_49, b_49⟩ := g_49
            have e_49 := e_49.symm
            subst e_49
            refine k_if (fun h50 => ?_) (fun h50 => ?_)
            ·
              refine k_bd (q_No_left d (by omega) _ _) (fun s_51 x_51 g_51 => ?_)
              obtain ⟨e_51, b_51⟩ := g_51
              have e_51 := e_51.symm
              subst e_51
              refine k_bd (q_No_left d (by omega) _ _) (fun s_52 x_52 g_52 => ?_)
              obtain ⟨e_52, b_52⟩ := g_52
              have e_52 := e_52.symm
              subst e_52
              refine k_if (fun h53 => ?_) (fun h53 => ?_)
              ·
                rw [e_Ju_families_315]
                refine k_if (fun h54 => ?_) (fun h54 => ?_)
                ·
                  rw [e_Ju_families_377]
                  exact k_some ⟨f_42, (k_b2 (by decide))⟩
                ·
                  refine k_bd (q_No_left d (by omega) _ _) (fun s_55 x_55 g_55 => ?_)
                  obtain ⟨e_55, b_55⟩ := g_55
                  have e_55 := e_55.symm
                  subst e_55
                  refine k_bd (q_Co_typeRoot d (by omega) _ _) (fun s_56 x_56 g_56 => ?_)
                  obtain ⟨e_56, b_56⟩ := g_56
                  have e_56 := e_56.symm
                  subst e_56
                  refine k_bd (q_Ma_push d (by omega) _ _ _ _) (fun s_57 x_57 g_57 => ?_)
                  have f_57 : k_F [18, 19, 20, 21, 22, 23, 30, 31] [(1, 1), (27, 5), (27, 10), (27, 11)] s s_57 := k_F.tr f_42 (k_F.mono g_57.1 rfl)
                  refine k_bd (q_Ma_push d (by omega) _ _ _ _) (fun s_58 x_58 g_58 => ?_)
                  have f_58 : k_F [18, 19, 20, 21, 22, 23, 30, 31] [(1, 1), (27, 5), (27, 10), (27, 11)] s s_58 := k_F.tr f_57 (k_F.mono g_58.1 rfl)
                  refine k_bd (hr _ _ _ _ _ (k_Jto (k_Jle hJ (g_37.2.2 h38)))) (fun s_59 x_59 g_59 => ?_)
                  have f_59 : k_F [18, 19, 20, 21, 22, 23, 30, 31] [(1, 1), (27, 5), (27, 10), (27, 11)] s s_59 := k_F.tr f_58 (k_F.mono g_59.1 rfl)
                  refine k_if (fun h60 => ?_) (fun h60 => ?_)
                  ·
                    rw [e_Ju_families_377]
                    exact k_some ⟨f_59, (k_b2 (by decide))⟩
                  ·
                    rw [e_Ju_families_373]
                    exact k_some ⟨f_59, (k_b2 (by decide))⟩
              ·
                rw [e_Ju_families_315]
                refine k_if (fun h61 => ?_) (fun h61 => ?_)
                ·
                  rw [e_Ju_families_377]
                  exact k_some ⟨f_42, (k_b2 (by decide))⟩
                ·
                  refine k_bd (q_No_left d (by omega) _ _) (fun s_62 x_62 g_62 => ?_)
                  obtain ⟨e_62, b_62⟩ := g_62
                  have e_62 := e_62.symm
                  subst e_62
                  refine k_bd (q_Co_typeRoot d (by omega) _ _) (fun s_63 x_63 g_63 => ?_)
                  obtain ⟨e_63, b_63⟩ := g_63
                  have e_63 := e_63.symm
                  subst e_63
                  refine k_bd (q_Ma_push d (by omega) _ _ _ _) (fun s_64 x_64 g_64 => ?_)
                  have f_64 : k_F [18, 19, 20, 21, 22, 23, 30, 31] [(1, 1), (27, 5), (27, 10), (27, 11)] s s_64 := k_F.tr f_42 (k_F.mono g_64.1 rfl)
                  refine k_bd (q_Ma_push d (by omega) _ _ _ _) (fun s_65 x_65 g_65 => ?_)
                  have f_65 : k_F [18, 19, 20, 21, 22, 23, 30, 31] [(1, 1), (27, 5), (27, 10), (27, 11)] s s_65 := k_F.tr f_64 (k_F.mono g_65.1 rfl)
                  refine k_bd (hr _ _ _ _ _ (k_Jto (k_Jle hJ (g_37.2.2 h38)))) (fun s_66 x_66 g_66 => ?_)
                  have f_66 : k_F [18, 19, 20, 21, 22, 23, 30, 31] [(1, 1), (27, 5), (27, 10), (27, 11)] s s_66 := k_F.tr f_65 (k_F.mono g_66.1 rfl)
                  refine k_if (fun h67 => ?_) (fun h67 => ?_)
                  ·
                    rw [e_Ju_families_377]
                    exact k_some ⟨f_66, (k_b2 (by decide))⟩
                  ·
                    rw [e_Ju_families_373]
                    exact k_some ⟨f_66, (k_b2 (by decide))⟩
            ·
              rw [e_Ju_families_315]
              refine k_if (fun h68 => ?_) (fun h68 => ?_)
              ·
                rw [e_Ju_families_377]
                exact k_some ⟨f_42, (k_b2 (by decide))⟩
              ·
                refine k_bd (q_No_left d (by omega) _ _) (fun s_69 x_69 g_69 => ?_)
                obtain ⟨e_69, b_69⟩ := g_69
                have e_69 := e_69.symm
                subst e_69
                refine k_bd (q_Co_typeRoot d (by omega) _ _) (fun s_70 x_70 g_70 => ?_)
                obtain ⟨e_70, b_70⟩ := g_70
                have e_70 := e_70.symm
                subst e_70
                refine k_bd (q_Ma_push d (by omega) _ _ _ _) (fun s_71 x_71 g_71 => ?_)
                have f_71 : k_F [18, 19, 20, 21, 22, 23, 30, 31] [(1, 1), (27, 5), (27, 10), (27, 11)] s s_71 := k_F.tr f_42 (k_F.mono g_71.1 rfl)
                refine k_bd (q_Ma_push d (by omega) _ _ _ _) (fun s_72 x_72 g_72 => ?_)
                have f_72 : k_F [18, 19, 20, 21, 22, 23, 30, 31] [(1, 1), (27, 5), (27, 10), (27, 11)] s s_72 := k_F.tr f_71 (k_F.mono g_72.1 rfl)
                refine k_bd (hr _ _ _ _ _ (k_Jto (k_Jle hJ (g_37.2.2 h38)))) (fun s_73 x_73 g_73 => ?_)
                have f_73 : k_F [18, 19, 20, 21, 22, 23, 30, 31] [(1, 1), (27, 5), (27, 10), (27, 11)] s s_73 := k_F.tr f_72 (k_F.mono g_73.1 rfl)
                refine k_if (fun h74 => ?_) (fun h74 => ?_)
                ·
                  rw [e_Ju_families_377]
                  exact k_some ⟨f_73, (k_b2 (by decide))⟩
                ·
                  rw [e_Ju_families_373]
                  exact k_some ⟨f_73, (k_b2 (by decide))⟩
          ·
            rw [e_Ju_families_315]
            refine k_if (fun h75 => ?_) (fun h75 => ?_)
            ·
              rw [e_Ju_families_377]
              exact k_some ⟨f_42, (k_b2 (by decide))⟩
            ·
              refine k_bd (q_No_left d (by omega) _ _) (fun s_76 x_76 g_76 => ?_)
              obtain ⟨e_76, b_76⟩ := g_76
              have e_76 := e_76.symm
              subst e_76
              refine k_bd (q_Co_typeRoot d (by omega) _ _) (fun s_77 x_77 g_77 => ?_)
              obtain ⟨e_77, b_77⟩ := g_77
              have e_77 := e_77.symm
              subst e_77
              refine k_bd (q_Ma_push d (by omega) _ _ _ _) (fun s_78 x_78 g_78 => ?_)
              have f_78 : k_F [18, 19, 20, 21, 22, 23, 30, 31] [(1, 1), (27, 5), (27, 10), (27, 11)] s s_78 := k_F.tr f_42 (k_F.mono g_78.1 rfl)
              refine k_bd (q_Ma_push d (by omega) _ _ _ _) (fun s_79 x_79 g_79 => ?_)
              have f_79 : k_F [18, 19, 20, 21, 22, 23, 30, 31] [(1, 1), (27, 5), (27, 10), (27, 11)] s s_79 := k_F.tr f_78 (k_F.mono g_79.1 rfl)
              refine k_bd (hr _ _ _ _ _ (k_Jto (k_Jle hJ (g_37.2.2 h38)))) (fun s_80 x_80 g_80 => ?_)
              have f_80 : k_F [18, 19, 20, 21, 22, 23, 30, 31] [(1, 1), (27, 5), (27, 10), (27, 11)] s s_80 := k_F.tr f_79 (k_F.mono g_80.1 rfl)
              refine k_if (fun h81 => ?_) (fun h81 => ?_)
              ·
                rw [e_Ju_families_377]
                exact k_some ⟨f_80, (k_b2 (by decide))⟩
              ·
                rw [e_Ju_families_373]
                exact k_some ⟨f_80, (k_b2 (by decide))⟩
        ·
          rw [e_Ju_families_111]
          refine k_bd (q_No_isArrow d (by omega) _ _) (fun s_82 x_82 g_82 => ?_)
          obtain ⟨e_82, b_82⟩ := g_82
          have e_82 := e_82.symm
          subst e_82
          refine k_if (fun h83 => ?_) (fun h83 => ?_)
          ·
            rw [e_Ju_families_261]
            refine k_bd (q_No_kind d (by omega) _ _) (fun s_84 x_84 g_84 => ?_)
            obtain ⟨e_84, b_84⟩ := g_84
            have e_84 := e_84.symm
            subst e_84
            refine k_if (fun h85 => ?_) (fun h85 => ?_)
            ·
              refine k_bd (q_No_kind d (by omega) _ _) (fun s_86 x_86 g_86 => ?_)
              obtain ⟨e_86, b_86⟩ := g_86
              have e_86 := e_86.symm
              subst e_86
              refine k_if (fun h87 => ?_) (fun h87 => ?_)
              ·
                refine k_bd (q_No_left d (by omega) _ _) (fun s_88 x_88 g_88 => ?_)
                obtain ⟨e_88, b_88⟩ := g_88
                have e_88 := e_88.symm
                subst e_88
                refine k_bd (q_No_left d (by omega) _ _) (fun s_89 x_89 g_89 => ?_)
                obtain ⟨e_89, b_89⟩ := g_89
                have e_89 := e_89.symm
                subst e_89
                refine k_if (fun h90 => ?_) (fun h90 => ?_)
                ·
                  rw [e_Ju_families_315]
                  refine k_if (fun h91 => ?_) (fun h91 => ?_)
                  ·
                    rw [e_Ju_families_377]
                    exact k_some ⟨f_42, (k_b2 (by decide))⟩
                  ·
                    refine k_bd (q_No_left d (by omega) _ _) (fun s_92 x_92 g_92 => ?_)
                    obtain ⟨e_92, b_92⟩ := g_92
                    have e_92 := e_92.symm
                    subst e_92
                    refine k_bd (q_Co_typeRoot d (by omega) _ _) (fun s_93 x_93 g_93 => ?_)
                    obtain ⟨e_93, b_93⟩ := g_93
                    have e_93 := e_93.symm
                    subst e_93
                    refine k_bd (q_Ma_push d (by omega) _ _ _ _) (fun s_94 x_94 g_94 => ?_)
                    have f_94 : k_F [18, 19, 20, 21, 22, 23, 30, 31] [(1, 1), (27, 5), (27, 10), (27, 11)] s s_94 := k_F.tr f_42 (k_F.mono g_94.1 rfl)
                    refine k_bd (q_Ma_push d (by omega) _ _ _ _) (fun s_95 x_95 g_95 => ?_)
                    have f_95 : k_F [18, 19, 20, 21, 22, 23, 30, 31] [(1, 1), (27, 5), (27, 10), (27, 11)] s s_95 := k_F.tr f_94 (k_F.mono g_95.1 rfl)
                    refine k_bd (hr _ _ _ _ _ (k_Jto (k_Jle hJ (g_37.2.2 h38)))) (fun s_96 x_96 g_96 => ?_)
                    have f_96 : k_F [18, 19, 20, 21, 22, 23, 30, 31] [(1, 1), (27, 5), (27, 10), (27, 11)] s s_96 := k_F.tr f_95 (k_F.mono g_96.1 rfl)
                    refine k_if (fun h97 => ?_) (fun h97 => ?_)
                    ·
                      rw [e_Ju_families_377]
                      exact k_some ⟨f_96, (k_b2 (by decide))⟩
                    ·
                      rw [e_Ju_families_373]
                      exact k_some ⟨f_96, (k_b2 (by decide))⟩
                ·
                  rw [e_Ju_families_315]
                  refine k_if (fun h98 => ?_) (fun h98 => ?_)
                  ·
                    rw [e_Ju_families_377]
                    exact k_some ⟨f_42, (k_b2 (by decide))⟩
                  ·
                    refine k_bd (q_No_left d (by omega) _ _) (fun s_99 x_99 g_99 => ?_)
                    obtain ⟨e_99, b_99⟩ := g_99
                    have e_99 := e_99.symm
                    subst e_99
                    refine k_bd (q_Co_typeRoot d (by omega) _ _) (fun s_100 x_100 g_100 => ?_)
                    obtain ⟨e_100, b_100⟩ := g_100
                    have e_100 := e_100.symm
                    subst e_100
                    refine k_bd (q_Ma_push d (by omega) _ _ _ _) (fun s_101 x_101 g_101 => ?_)
                    have f_101 : k_F [18, 19, 20, 21, 22, 23, 30, 31] [(1, 1), (27, 5), (27, 10), (27, 11)] s s_101 := k_F.tr f_42 (k_F.mono g_101.1 rfl)
                    refine k_bd (q_Ma_push d (by omega) _ _ _ _) (fun s_102 x_102 g_102 => ?_)
                    have f_102 : k_F [18, 19, 20, 21, 22, 23, 30, 31] [(1, 1), (27, 5), (27, 10), (27, 11)] s s_102 := k_F.tr f_101 (k_F.mono g_102.1 rfl)
                    refine k_bd (hr _ _ _ _ _ (k_Jto (k_Jle hJ (g_37.2.2 h38)))) (fun s_103 x_103 g_103 => ?_)
                    have f_103 : k_F [18, 19, 20, 21, 22, 23, 30, 31] [(1, 1), (27, 5), (27, 10), (27, 11)] s s_103 := k_F.tr f_102 (k_F.mono g_103.1 rfl)
                    refine k_if (fun h104 => ?_) (fun h104 => ?_)
                    ·
                      rw [e_Ju_families_377]
                      exact k_some ⟨f_103, (k_b2 (by decide))⟩
                    ·
                      rw [e_Ju_families_373]
                      exact k_some ⟨f_103, (k_b2 (by decide))⟩
              ·
                rw [e_Ju_families_315]
                refine k_if (fun h105 => ?_) (fun h105 => ?_)
                ·
                  rw [e_Ju_families_377]
                  exact k_some ⟨f_42, (k_b2 (by decide))⟩
                ·
                  refine k_bd (q_No_left d (by omega) _ _) (fun s_106 x_106 g_106 => ?_)
                  obtain ⟨e_106, b_106⟩ := g_106
                  have e_106 := e_106.symm
                  subst e_106
                  refine k_bd (q_Co_typeRoot d (by omega) _ _) (fun s_107 x_107 g_107 => ?_)
                  obtain ⟨e_107, b_107⟩ := g_107
                  have e_107 := e_107.symm
                  subst e_107
                  refine k_bd (q_Ma_push d (by omega) _ _ _ _) (fun s_108 x_108 g_108 => ?_)
                  have f_108 : k_F [18, 19, 20, 21, 22, 23, 30, 31] [(1, 1), (27, 5), (27, 10), (27, 11)] s s_108 := k_F.tr f_42 (k_F.mono g_108.1 rfl)
                  refine k_bd (q_Ma_push d (by omega) _ _ _ _) (fun s_109 x_109 g_109 => ?_)
                  have f_109 : k_F [18, 19, 20, 21, 22, 23, 30, 31] [(1, 1), (27, 5), (27, 10), (27, 11)] s s_109 := k_F.tr f_108 (k_F.mono g_109.1 rfl)
                  refine k_bd (hr _ _ _ _ _ (k_Jto (k_Jle hJ (g_37.2.2 h38)))) (fun s_110 x_110 g_110 => ?_)
                  have f_110 : k_F [18, 19, 20, 21, 22, 23, 30, 31] [(1, 1), (27, 5), (27, 10), (27, 11)] s s_110 := k_F.tr f_109 (k_F.mono g_110.1 rfl)
                  refine k_if (fun h111 => ?_) (fun h111 => ?_)
                  ·
                    rw [e_Ju_families_377]
                    exact k_some ⟨f_110, (k_b2 (by decide))⟩
                  ·
                    rw [e_Ju_families_373]
                    exact k_some ⟨f_110, (k_b2 (by decide))⟩
            ·
              rw [e_Ju_families_315]
              refine k_if (fun h112 => ?_) (fun h112 => ?_)
              ·
                rw [e_Ju_families_377]
                exact k_some ⟨f_42, (k_b2 (by decide))⟩
              ·
                refine k_bd (q_No_left d (by omega) _ _) (fun s_113 x_113 g_113 => ?_)
                obtain ⟨e_113, b_113⟩ := g_113
                have e_113 := e_113.symm
                subst e_113
                refine k_bd (q_Co_typeRoot d (by omega) _ _) (fun s_114 x_114 g_114 => ?_)
                obtain ⟨e_114, b_114⟩ := g_114
                have e_114 := e_114.symm
                subst e_114
                refine k_bd (q_Ma_push d (by omega) _ _ _ _) (fun s_115 x_115 g_115 => ?_)
                have f_115 : k_F [18, 19, 20, 21, 22, 23, 30, 31] [(1, 1), (27, 5), (27, 10), (27, 11)] s s_115 := k_F.tr f_42 (k_F.mono g_115.1 rfl)
                refine k_bd (q_Ma_push d (by omega) _ _ _ _) (fun s_116 x_116 g_116 => ?_)
                have f_116 : k_F [18, 19, 20, 21, 22, 23, 30, 31] [(1, 1), (27, 5), (27, 10), (27, 11)] s s_116 := k_F.tr f_115 (k_F.mono g_116.1 rfl)
                refine k_bd (hr _ _ _ _ _ (k_Jto (k_Jle hJ (g_37.2.2 h38)))) (fun s_117 x_117 g_117 => ?_)
                have f_117 : k_F [18, 19, 20, 21, 22, 23, 30, 31] [(1, 1), (27, 5), (27, 10), (27, 11)] s s_117 := k_F.tr f_116 (k_F.mono g_117.1 rfl)
                refine k_if (fun h118 => ?_) (fun h118 => ?_)
                ·
                  rw [e_Ju_families_377]
                  exact k_some ⟨f_117, (k_b2 (by decide))⟩
                ·
                  rw [e_Ju_families_373]
                  exact k_some ⟨f_117, (k_b2 (by decide))⟩
          ·
            refine k_bd (q_Ce_mark d (by omega)  _) (fun s_119 x_119 g_119 => ?_)
            obtain ⟨e_119, b_119⟩ := g_119
            have e_119 := e_119.symm
            subst e_119
            refine k_bd (q_No_left d (by omega) _ _) (fun s_120 x_120 g_120 => ?_)
            obtain ⟨e_120, b_120⟩ := g_120
            have e_120 := e_120.symm
            subst e_120
            refine k_bd (q_No_left d (by omega) _ _) (fun s_121 x_121 g_121 => ?_)
            obtain ⟨e_121, b_121⟩ := g_121
            have e_121 := e_121.symm
            subst e_121
            refine k_bd (ih _ _ _ _ _ _ (k_Jto (k_Jle hJ (g_37.2.2 h38)))) (fun s_122 x_122 g_122 => ?_)
            have f_122 : k_F [18, 19, 20, 21, 22, 23, 30, 31] [(1, 1), (27, 5), (27, 10), (27, 11)] s s_122 := k_F.tr f_42 (k_F.mono g_122.1 rfl)
            refine k_if (fun h123 => ?_) (fun h123 => ?_)
            ·
              rw [e_Ju_families_168]
              exact k_some ⟨f_122, (k_b2 (by decide))⟩
            ·
              rw [e_Ju_families_170]
              refine k_bd (q_Ce_release d (by omega) _ _) (fun s_124 x_124 g_124 => ?_)
              have f_124 : k_F [18, 19, 20, 21, 22, 23, 30, 31] [(1, 1), (27, 5), (27, 10), (27, 11)] s s_124 := k_F.tr f_122 (k_F.mono g_124.1 rfl)
              refine k_bd (q_No_left d (by omega) _ _) (fun s_125 x_125 g_125 => ?_)
              obtain ⟨e_125, b_125⟩ := g_125
              have e_125 := e_125.symm
              subst e_125
              refine k_bd (q_Ce_newVariable d (by omega) _ _ _ _) (fun s_126 x_126 g_126 => ?_)
              have f_126 : k_F [18, 19, 20, 21, 22, 23, 30, 31] [(1, 1), (27, 5), (27, 10), (27, 11)] s s_126 := k_F.tr f_124 (k_F.mono g_126.1 rfl)
              refine k_bd (q_Ce_enter d (by omega) _ _ _ _) (fun s_127 x_127 g_127 => ?_)
              have f_127 : k_F [18, 19, 20, 21, 22, 23, 30, 31] [(1, 1), (27, 5), (27, 10), (27, 11)] s s_127 := k_F.tr f_126 (k_F.mono g_127.1 rfl)
              refine k_bd (q_No_right d (by omega) _ _) (fun s_128 x_128 g_128 => ?_)
              obtain ⟨e_128, b_128⟩ := g_128
              have e_128 := e_128.symm
              subst e_128
              rw [e_Ju_families_226]
              refine k_bd (q_Ce_enter d (by omega) _ _ _ _) (fun s_129 x_129 g_129 => ?_)
              have f_129 : k_F [18, 19, 20, 21, 22, 23, 30, 31] [(1, 1), (27, 5), (27, 10), (27, 11)] s s_129 := k_F.tr f_127 (k_F.mono g_129.1 rfl)
              refine k_bd (q_No_right d (by omega) _ _) (fun s_130 x_130 g_130 => ?_)
              obtain ⟨e_130, b_130⟩ := g_130
              have e_130 := e_130.symm
              subst e_130
              exact k_mono (q_Ju_families_20 d hd D ih hr n _ _ _ _ _ _ _ (k_Jup hJ (g_37.2.2 h38)) (k_upn h1 (by decide) hn)) (fun σ r g => ⟨k_F.tr f_129 g.1, g.2⟩)
theorem q_Ju_families : ∀ (N d : Nat) (a b c e D : Int32) (s : c_S), k_mu D < N → 6 + N ≤ d → k_ok (c_M d 147 [v_r 31, v_i a, v_i b, v_i c, v_i e, v_i D] s) (fun σ r => k_F [18, 19, 20, 21, 22, 23, 30, 31] [(1, 1), (27, 5), (27, 10), (27, 11)] s σ ∧ k_b 2 r)
  | 0, _, _, _, _, _, _, _, h, _ => absurd h (Nat.not_lt_zero _)
  | N + 1, d, a, b, c, e, D, s, h, hd => by
    obtain ⟨d, rfl⟩ : ∃ e, d = e + 1 := ⟨d - 1, by omega⟩
    rw [m_Ju_families, e_Ju_families_0, e_Ju_families_17]
    exact q_Ju_families_20 d (by omega) D (fun a b c e E t hE => q_Ju_families N d a b c e E t (by have := hE.mu; omega) (by omega)) (fun a b c E t hE => q_Ju_rows N d a b c E t (by have := hE.mu; omega) (by omega)) _ _ _ _ _ _ _ _ k_J0 (Nat.lt_succ_self _)
