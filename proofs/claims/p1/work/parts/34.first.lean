set_option maxRecDepth 100000 in
set_option maxHeartbeats 8000000 in
theorem p1_declare : p1_chk 1 76 = true := by decide +kernel
set_option maxRecDepth 100000 in
set_option maxHeartbeats 8000000 in
theorem p1_canon : p1_chk 2 93 = true := by decide +kernel
set_option maxRecDepth 100000 in
set_option maxHeartbeats 8000000 in
theorem p1_type : p1_chk 3 94 = true := by decide +kernel
set_option maxRecDepth 100000 in
set_option maxHeartbeats 8000000 in
theorem p1_equal : p1_chk 4 95 = true := by decide +kernel
set_option maxRecDepth 100000 in
set_option maxHeartbeats 8000000 in
theorem p1_named : p1_chk 5 96 = true := by decide +kernel
set_option maxRecDepth 100000 in
set_option maxHeartbeats 8000000 in
theorem p1_size : p1_chk 7 98 = true := by decide +kernel
def p1_Inv (j : Nat) (σ : c_S) : Prop := j = 0 → σ = d_S0
theorem p1_call {tx tm : Nat} {as : List c_V} (h : ∃ σ1 σ2 r, c_M 1500 tx (v_r 0 :: as) d_S0 = some (σ1, r) ∧ c_M 1500 tm (v_r 34 :: as) σ1 = some (σ2, r)) : p_call p1_Inv 0 d_S0 tx tm as := by
  obtain ⟨σ1, σ2, r, h1, h2⟩ := h
  exact ⟨σ1, σ2, r, h1, h2, fun h => absurd h (by decide)⟩
theorem p1_feed (a b c : Int64) : ∃ σ1 σ2 r, c_M 1500 0 [v_r 0, v_l a, v_l b, v_l c] d_S0 = some (σ1, r) ∧ c_M 1500 18 [v_r 34, v_l a, v_l b, v_l c] σ1 = some (σ2, r) := by
  obtain ⟨s1, e1, -, f1⟩ := ta_feed 1498 a b c d_S0 (n := 0) (by decide) rfl
  obtain ⟨s2, e2, -, -⟩ := rl_feed 1498 a b c s1 (n := 0) (by decide) (by rw [f1.1 34 (by decide) (by decide)]; rfl)
  exact ⟨s1, s2, _, e1, e2⟩
theorem p1_constant (a b : Int32) : ∃ σ1 σ2 r, c_M 1500 6 [v_r 0, v_i a, v_i b] d_S0 = some (σ1, r) ∧ c_M 1500 97 [v_r 34, v_i a, v_i b] σ1 = some (σ2, r) := by
  refine ⟨d_S0, c_put d_S0 34 0 0, -1, ?_, ?_⟩
  · show c_M (1499 + 1) 6 _ _ = _
    rw [m_Fb_constant, e_Fb_constant_0]
    by_cases h : a < 0
    · rw [if_pos h]
    · rw [if_neg h]
      show c_bd (c_M (1498 + 1) 130 _ _) _ = _
      rw [m_Co_number, e_Co_number_0, c_bd_some, if_neg (show ¬ a < d_S0.1 11 7 from h)]
  · show c_M (1499 + 1) 97 _ _ = _
    rw [m_Rm_constant, e_Rm_constant_0]
    by_cases h : a < 0
    · rw [if_pos h]
    · rw [if_neg h, if_neg (show ¬ a < d_S0.1 34 21 from h)]
theorem p1_out (a : Int32) : ∃ σ1 σ2 r, c_M 1500 8 [v_r 0, v_i a] d_S0 = some (σ1, r) ∧ c_M 1500 99 [v_r 34, v_i a] σ1 = some (σ2, r) := by
  refine ⟨d_S0, c_put d_S0 34 0 0, -1, ?_, ?_⟩
  · show c_M (1499 + 1) 8 _ _ = _
    rw [m_Fb_out, e_Fb_out_0]
    show c_bd (c_M (1498 + 1) 185 _ _) _ = _
    rw [m_Pa_signAt, e_Pa_signAt_0]
    by_cases h : a < 0
    · rw [if_pos h, c_bd_some]
    · rw [if_neg h, if_neg (show ¬ a < d_S0.1 24 3 from h), c_bd_some]
  · show c_M (1499 + 1) 99 _ _ = _
    rw [m_Rm_out, e_Rm_out_0]
    by_cases h : a < 0
    · rw [if_pos h]
    · rw [if_neg h, if_neg (show ¬ a < d_S0.1 34 70 from h)]
theorem i32_le0 {a : Int32} (h : ¬ a < 0) (h2 : ¬ 0 < a) : a = 0 := by
  obtain ⟨j, hj, rfl⟩ := nI_of h
  have := mt (nI_ltI (a := 0) (b := j) (by decide) hj).mpr h2
  have : j = 0 := by omega
  rw [this]; rfl
theorem p1_forget (a : Int32) : ∃ σ1 σ2 r, c_M 1500 9 [v_r 0, v_i a] d_S0 = some (σ1, r) ∧ c_M 1500 100 [v_r 34, v_i a] σ1 = some (σ2, r) := by
  by_cases h : a < 0
  · refine ⟨d_S0, c_put d_S0 34 0 0, -1, ?_, ?_⟩
    · show c_M (1499 + 1) 9 _ _ = _
      rw [m_Fb_forget, e_Fb_forget_0, if_pos h]
    · show c_M (1499 + 1) 100 _ _ = _
      rw [m_Rm_forget, e_Rm_forget_0, if_pos h]
  · by_cases h2 : 0 < a
    · refine ⟨d_S0, c_put d_S0 34 0 0, -1, ?_, ?_⟩
      · show c_M (1499 + 1) 9 _ _ = _
        rw [m_Fb_forget, e_Fb_forget_0, if_neg h]
        show c_bd (c_M (1498 + 1) 130 _ _) _ = _
        rw [m_Co_number, e_Co_number_0, c_bd_some, if_pos (show d_S0.1 11 7 < a from h2)]
      · show c_M (1499 + 1) 100 _ _ = _
        rw [m_Rm_forget, e_Rm_forget_0, if_neg h, if_pos (show d_S0.1 34 21 < a from h2)]
    · have ha : a = 0 := i32_le0 h h2
      subst ha
      refine ⟨d_S0, c_put (c_put (c_put d_S0 34 0 0) 34 21 0) 34 16 (d_S0.1 34 16), 0, ?_, ?_⟩
      · show c_M (1499 + 1) 9 _ _ = _
        rw [m_Fb_forget, e_Fb_forget_0, if_neg h]
        show c_bd (c_M (1498 + 1) 130 _ _) _ = _
        rw [m_Co_number, e_Co_number_0, c_bd_some, if_neg (show ¬ d_S0.1 11 7 < 0 from h2)]
        show c_bd (c_M (1498 + 1) 140 _ _) _ = _
        rw [m_Co_drop, e_Co_drop_0, if_neg h2, c_bd_some]
        show c_bd (c_M (1498 + 1) 130 _ _) _ = _
        rw [m_Co_number, e_Co_number_0, c_bd_some]
        rfl
      · show c_M (1499 + 1) 100 _ _ = _
        rw [m_Rm_forget, e_Rm_forget_0, if_neg h, if_neg (show ¬ d_S0.1 34 21 < 0 from h2), if_neg h2]
        rfl
theorem p1_count (a : Int32) : ∃ σ1 σ2 r, c_M 1500 10 [v_r 0, v_i a] d_S0 = some (σ1, r) ∧ c_M 1500 101 [v_r 34, v_i a] σ1 = some (σ2, r) := by
  have key : ∃ r, c_M (1499 + 1) 10 [v_r 0, v_i a] d_S0 = some (d_S0, r) ∧ c_M (1499 + 1) 101 [v_r 34, v_i a] d_S0 = some (c_put d_S0 34 0 0, r) := by
    rw [m_Fb_count, e_Fb_count_0, m_Rm_count, e_Rm_count_0]
    by_cases h0 : a = 0
    · rw [if_pos h0, if_pos h0]
      refine ⟨0, ?_, rfl⟩
      show c_bd (c_M (1498 + 1) 130 _ _) _ = _
      rw [m_Co_number, e_Co_number_0, c_bd_some]; rfl
    · rw [if_neg h0, if_neg h0]
      by_cases h1 : a = 1
      · rw [if_pos h1, if_pos h1]
        refine ⟨0, ?_, rfl⟩
        show c_bd (c_M (1498 + 1) 162 _ _) _ = _
        rw [m_Me_stepsInAll, e_Me_stepsInAll_0, c_bd_some]; rfl
      · rw [if_neg h1, if_neg h1]
        by_cases h2 : a = 2
        · rw [if_pos h2, if_pos h2]
          refine ⟨0, ?_, rfl⟩
          show c_bd (c_M (1498 + 1) 163 _ _) _ = _
          rw [m_Me_stepsOfLatest, e_Me_stepsOfLatest_0, c_bd_some]; rfl
        · rw [if_neg h2, if_neg h2]
          by_cases h3 : a = 3
          · rw [if_pos h3, if_pos h3]
            refine ⟨0, ?_, rfl⟩
            show c_bd (c_M (1498 + 1) 213 _ _) _ = _
            rw [m_Ta_length, e_Ta_length_0, c_bd_some]; rfl
          · rw [if_neg h3, if_neg h3]
            exact ⟨-1, rfl, rfl⟩
  obtain ⟨r, k1, k2⟩ := key
  exact ⟨_, _, r, k1, k2⟩
theorem p1_pure : ∃ Inv : Nat → c_S → Prop, p_OK Inv := by
  refine ⟨p1_Inv, fun _ => rfl, ?_⟩
  intro j σ hj hi
  have hj0 : j = 0 := by omega
  subst hj0
  have hσ := hi rfl
  subst hσ
  exact ⟨fun h => absurd h (by decide), fun a b c => p1_call (p1_feed a b c), p1_call (p1_of p1_declare), p1_call (p1_of p1_canon), p1_call (p1_of p1_type), p1_call (p1_of p1_equal), p1_call (p1_of p1_named), fun a b => p1_call (p1_constant a b), p1_call (p1_of p1_size), fun a => p1_call (p1_out a), fun a => p1_call (p1_forget a), fun a => p1_call (p1_count a)⟩
