theorem q_Ma_headType (d : Nat) (hd : 2 ≤ d)  (s : c_S) : k_ok (c_M d 155 [v_r 30] s) (fun σ r => σ = s ∧ k_b 1 r) := by
  obtain ⟨d, rfl⟩ : ∃ e, d = e + 1 := ⟨d - 1, by omega⟩
  rw [m_Ma_headType, e_Ma_headType_0]
  refine k_if (fun h1 => ?_) (fun h1 => ?_)
  ·
    refine k_bd (q_Ce_term d (by omega) _ _) (fun s_2 x_2 g_2 => ?_)
    obtain ⟨e_2, b_2⟩ := g_2
    have e_2 := e_2.symm
    subst e_2
    exact k_some ⟨rfl, k_b1⟩
  ·
    refine k_bd (q_Co_typeRoot d (by omega) _ _) (fun s_3 x_3 g_3 => ?_)
    obtain ⟨e_3, b_3⟩ := g_3
    have e_3 := e_3.symm
    subst e_3
    exact k_some ⟨rfl, k_b1⟩
theorem q_Ma_row (d : Nat) (hd : 1 ≤ d)  (s : c_S) : k_ok (c_M d 154 [v_r 30] s) (fun σ r => σ = s ∧ k_b 1 r) := by
  obtain ⟨d, rfl⟩ : ∃ e, d = e + 1 := ⟨d - 1, by omega⟩
  rw [m_Ma_row, e_Ma_row_0]
  exact k_some ⟨rfl, k_b1⟩
theorem q_Me_question (d : Nat) (hd : 3 ≤ d) (i1 : Int32) (s : c_S) : k_ok (c_M d 167 [v_r 18, v_i i1] s) (fun σ r => k_F [18] [(1, 1), (27, 5), (27, 10), (27, 11)] s σ ∧ k_b 2 r) := by
  obtain ⟨d, rfl⟩ : ∃ e, d = e + 1 := ⟨d - 1, by omega⟩
  rw [m_Me_question, e_Me_question_0]
  refine k_if (fun h1 => ?_) (fun h1 => ?_)
  ·
    refine k_bd (q_Me_stop d (by omega) _ _) (fun s_2 x_2 g_2 => ?_)
    have f_2 : k_F [18] [(1, 1), (27, 5), (27, 10), (27, 11)] s s_2 := k_F.tr k_F.rf (k_F.mono g_2.1 rfl)
    rw [e_Me_question_12]
    refine k_bd (q_Me_step d (by omega)  _) (fun s_3 x_3 g_3 => ?_)
    have f_3 : k_F [18] [(1, 1), (27, 5), (27, 10), (27, 11)] s s_3 := k_F.tr f_2 (k_F.mono g_3.1 rfl)
    exact k_bz (g_3.2 rfl) ⟨f_3, (k_b2 (g_3.2 rfl))⟩
  ·
    rw [e_Me_question_12]
    refine k_bd (q_Me_step d (by omega)  _) (fun s_4 x_4 g_4 => ?_)
    have f_4 : k_F [18] [(1, 1), (27, 5), (27, 10), (27, 11)] s s_4 := k_F.tr k_F.rf (k_F.mono g_4.1 rfl)
    exact k_bz (g_4.2 rfl) ⟨f_4, (k_b2 (g_4.2 rfl))⟩
theorem q_No_becomeFamily (d : Nat) (hd : 1 ≤ d) (i1 : Int32) (i2 : Int32) (s : c_S) : k_ok (c_M d 183 [v_r 3, v_i i1, v_i i2] s) (fun σ r => k_F [4, 5] [(1, 1), (27, 5), (27, 10), (27, 11)] s σ ∧ k_b 0 r) := by
  obtain ⟨d, rfl⟩ : ∃ e, d = e + 1 := ⟨d - 1, by omega⟩
  rw [m_No_becomeFamily, e_No_becomeFamily_0]
  refine k_if (fun h1 => ?_) (fun h1 => ?_)
  ·
    refine k_if (fun h2 => ?_) (fun h2 => ?_)
    ·
      refine k_rg (k_in (k_nn1 h1) h2 (by decide)) ?_
      refine k_rg (k_in (k_nn1 h1) h2 (by decide)) ?_
      exact k_some ⟨(k_F.put (k_F.put k_F.rf rfl) rfl), k_b0⟩
    ·
      exact k_some ⟨k_F.rf, k_b0⟩
  ·
    exact k_some ⟨k_F.rf, k_b0⟩
theorem q_No_inBrackets (d : Nat) (hd : 2 ≤ d) (i1 : Int32) (s : c_S) : k_ok (c_M d 179 [v_r 3, v_i i1] s) (fun σ r => σ = s ∧ k_b 2 r) := by
  obtain ⟨d, rfl⟩ : ∃ e, d = e + 1 := ⟨d - 1, by omega⟩
  rw [m_No_inBrackets, e_No_inBrackets_0]
  refine k_bd (q_No_place d (by omega) _ _) (fun s_1 x_1 g_1 => ?_)
  obtain ⟨e_1, b_1⟩ := g_1
  have e_1 := e_1.symm
  subst e_1
  refine k_bd (q_No_first d (by omega) _ _) (fun s_2 x_2 g_2 => ?_)
  obtain ⟨e_2, b_2⟩ := g_2
  have e_2 := e_2.symm
  subst e_2
  refine k_if (fun h3 => ?_) (fun h3 => ?_)
  ·
    exact k_some ⟨rfl, (k_b2 (by decide))⟩
  ·
    exact k_some ⟨rfl, (k_b2 (by decide))⟩
theorem q_Ck_sort (d : Nat) (hd : 1 ≤ d)  (s : c_S) : k_ok (c_M d 116 [v_r 32] s) (fun σ r => σ = s ∧ k_b 1 r) := by
  obtain ⟨d, rfl⟩ : ∃ e, d = e + 1 := ⟨d - 1, by omega⟩
  rw [m_Ck_sort, e_Ck_sort_0]
  exact k_some ⟨rfl, k_b1⟩
theorem q_Co_add (d : Nat) (hd : 1 ≤ d) (i1 : Int32) (i2 : Int32) (i3 : Int32) (i4 : Int32) (s : c_S) : k_ok (c_M d 139 [v_r 11, v_i i1, v_i i2, v_i i3, v_i i4] s) (fun σ r => k_F [11, 14, 15, 16, 17] [(1, 1), (27, 5), (27, 10), (27, 11)] s σ ∧ k_b 0 r) := by
  obtain ⟨d, rfl⟩ : ∃ e, d = e + 1 := ⟨d - 1, by omega⟩
  rw [m_Co_add, e_Co_add_0]
  refine k_if (fun h1 => ?_) (fun h1 => ?_)
  ·
    exact k_some ⟨k_F.rf, k_b0⟩
  ·
    refine k_if (fun h2 => ?_) (fun h2 => ?_)
    ·
      refine k_rg (k_in h1 h2 (by decide)) ?_
      refine k_rg (k_in h1 h2 (by decide)) ?_
      refine k_rg (k_in h1 h2 (by decide)) ?_
      refine k_rg (k_in h1 h2 (by decide)) ?_
      exact k_some ⟨(k_F.puf (k_F.put (k_F.put (k_F.put (k_F.put k_F.rf rfl) rfl) rfl) rfl) rfl), k_b0⟩
    ·
      exact k_some ⟨k_F.rf, k_b0⟩
theorem q_Ta_signAt (d : Nat) (hd : 1 ≤ d) (i1 : Int32) (s : c_S) : k_ok (c_M d 215 [v_r 1, v_i i1] s) (fun σ r => σ = s ∧ k_b 1 r) := by
  obtain ⟨d, rfl⟩ : ∃ e, d = e + 1 := ⟨d - 1, by omega⟩
  rw [m_Ta_signAt, e_Ta_signAt_0]
  refine k_if (fun h1 => ?_) (fun h1 => ?_)
  ·
    exact k_some ⟨rfl, k_b1⟩
  ·
    refine k_if (fun h2 => ?_) (fun h2 => ?_)
    ·
      refine k_if (fun h3 => ?_) (fun h3 => ?_)
      ·
        refine k_rg (k_in h1 h3 (by decide)) ?_
        exact k_some ⟨rfl, k_b1⟩
      ·
        exact k_some ⟨rfl, k_b1⟩
    ·
      exact k_some ⟨rfl, k_b1⟩
theorem q_Me_begin (d : Nat) (hd : 1 ≤ d)  (s : c_S) : k_ok (c_M d 161 [v_r 18] s) (fun σ r => k_F [18] [(1, 1), (27, 5), (27, 10), (27, 11)] s σ ∧ k_b 0 r) := by
  obtain ⟨d, rfl⟩ : ∃ e, d = e + 1 := ⟨d - 1, by omega⟩
  rw [m_Me_begin, e_Me_begin_0]
  exact k_some ⟨(k_F.puf (k_F.puf k_F.rf rfl) rfl), k_b0⟩
theorem q_Fb_isLetter (d : Nat) (hd : 1 ≤ d) (i0 : Int32) (s : c_S) : k_ok (c_M d 16 [v_i i0] s) (fun σ r => σ = s ∧ k_b 2 r) := by
  obtain ⟨d, rfl⟩ : ∃ e, d = e + 1 := ⟨d - 1, by omega⟩
  rw [m_Fb_isLetter, e_Fb_isLetter_0]
  refine k_if (fun h1 => ?_) (fun h1 => ?_)
  ·
    refine k_if (fun h2 => ?_) (fun h2 => ?_)
    ·
      exact k_some ⟨rfl, (k_b2 (by decide))⟩
    ·
      refine k_if (fun h3 => ?_) (fun h3 => ?_)
      ·
        exact k_some ⟨rfl, (k_b2 (by decide))⟩
      ·
        exact k_some ⟨rfl, (k_b2 (by decide))⟩
  ·
    refine k_if (fun h4 => ?_) (fun h4 => ?_)
    ·
      refine k_if (fun h5 => ?_) (fun h5 => ?_)
      ·
        exact k_some ⟨rfl, (k_b2 (by decide))⟩
      ·
        refine k_if (fun h6 => ?_) (fun h6 => ?_)
        ·
          exact k_some ⟨rfl, (k_b2 (by decide))⟩
        ·
          exact k_some ⟨rfl, (k_b2 (by decide))⟩
    ·
      exact k_some ⟨rfl, (k_b2 (by decide))⟩
theorem q_Ta_isBlank (d : Nat) (hd : 1 ≤ d) (i0 : Int32) (s : c_S) : k_ok (c_M d 224 [v_i i0] s) (fun σ r => σ = s ∧ k_b 2 r) := by
  obtain ⟨d, rfl⟩ : ∃ e, d = e + 1 := ⟨d - 1, by omega⟩
  rw [m_Ta_isBlank, e_Ta_isBlank_0]
  refine k_if (fun h1 => ?_) (fun h1 => ?_)
  ·
    exact k_some ⟨rfl, (k_b2 (by decide))⟩
  ·
    refine k_if (fun h2 => ?_) (fun h2 => ?_)
    ·
      exact k_some ⟨rfl, (k_b2 (by decide))⟩
    ·
      exact k_some ⟨rfl, (k_b2 (by decide))⟩
theorem q_Ta_isMark (d : Nat) (hd : 1 ≤ d) (i0 : Int32) (s : c_S) : k_ok (c_M d 225 [v_i i0] s) (fun σ r => σ = s ∧ k_b 2 r) := by
  obtain ⟨d, rfl⟩ : ∃ e, d = e + 1 := ⟨d - 1, by omega⟩
  rw [m_Ta_isMark, e_Ta_isMark_0]
  refine k_if (fun h1 => ?_) (fun h1 => ?_)
  ·
    exact k_some ⟨rfl, (k_b2 (by decide))⟩
  ·
    refine k_if (fun h2 => ?_) (fun h2 => ?_)
    ·
      exact k_some ⟨rfl, (k_b2 (by decide))⟩
    ·
      refine k_if (fun h3 => ?_) (fun h3 => ?_)
      ·
        exact k_some ⟨rfl, (k_b2 (by decide))⟩
      ·
        refine k_if (fun h4 => ?_) (fun h4 => ?_)
        ·
          exact k_some ⟨rfl, (k_b2 (by decide))⟩
        ·
          refine k_if (fun h5 => ?_) (fun h5 => ?_)
          ·
            exact k_some ⟨rfl, (k_b2 (by decide))⟩
          ·
            refine k_if (fun h6 => ?_) (fun h6 => ?_)
            ·
              exact k_some ⟨rfl, (k_b2 (by decide))⟩
            ·
              refine k_if (fun h7 => ?_) (fun h7 => ?_)
              ·
                exact k_some ⟨rfl, (k_b2 (by decide))⟩
              ·
                refine k_if (fun h8 => ?_) (fun h8 => ?_)
                ·
                  exact k_some ⟨rfl, (k_b2 (by decide))⟩
                ·
                  refine k_if (fun h9 => ?_) (fun h9 => ?_)
                  ·
                    exact k_some ⟨rfl, (k_b2 (by decide))⟩
                  ·
                    refine k_if (fun h10 => ?_) (fun h10 => ?_)
                    ·
                      exact k_some ⟨rfl, (k_b2 (by decide))⟩
                    ·
                      refine k_if (fun h11 => ?_) (fun h11 => ?_)
                      ·
                        exact k_some ⟨rfl, (k_b2 (by decide))⟩
                      ·
                        exact k_some ⟨rfl, (k_b2 (by decide))⟩
theorem q_Fb_isDigit (d : Nat) (hd : 1 ≤ d) (i0 : Int32) (s : c_S) : k_ok (c_M d 17 [v_i i0] s) (fun σ r => σ = s ∧ k_b 2 r) := by
  obtain ⟨d, rfl⟩ : ∃ e, d = e + 1 := ⟨d - 1, by omega⟩
  rw [m_Fb_isDigit, e_Fb_isDigit_0]
  refine k_if (fun h1 => ?_) (fun h1 => ?_)
  ·
    exact k_some ⟨rfl, (k_b2 (by decide))⟩
  ·
    refine k_if (fun h2 => ?_) (fun h2 => ?_)
    ·
      exact k_some ⟨rfl, (k_b2 (by decide))⟩
    ·
      exact k_some ⟨rfl, (k_b2 (by decide))⟩
theorem q_Ta_readWord_5 (d : Nat) (hd : 2 ≤ d + 1) : ∀ (n : Nat) (i1 : Int32) (s : c_S), k_m i1 < n → k_ok (b_Ta_readWord_5 (c_M d) i1 s) (fun σ r => k_F [1] [(1, 1), (27, 5), (27, 10), (27, 11)] s σ ∧ k_b 0 r)
  | 0, i1, s, hn => absurd hn (Nat.not_lt_zero _)
  | n + 1, i1, s, hn => by
    rw [e_Ta_readWord_5]
    refine k_if (fun h1 => ?_) (fun h1 => ?_)
    ·
      refine k_bd (q_Ta_signAt d (by omega) _ _) (fun s_2 x_2 g_2 => ?_)
      obtain ⟨e_2, b_2⟩ := g_2
      have e_2 := e_2.symm
      subst e_2
      refine k_bd (q_Fb_isLetter d (by omega) _ _) (fun s_3 x_3 g_3 => ?_)
      obtain ⟨e_3, b_3⟩ := g_3
      have e_3 := e_3.symm
      subst e_3
      refine k_if (fun h4 => ?_) (fun h4 => ?_)
      ·
        refine k_bd (q_Ta_signAt d (by omega) _ _) (fun s_5 x_5 g_5 => ?_)
        obtain ⟨e_5, b_5⟩ := g_5
        have e_5 := e_5.symm
        subst e_5
        refine k_bd (q_Fb_isDigit d (by omega) _ _) (fun s_6 x_6 g_6 => ?_)
        obtain ⟨e_6, b_6⟩ := g_6
        have e_6 := e_6.symm
        subst e_6
        refine k_if (fun h7 => ?_) (fun h7 => ?_)
        ·
          rw [e_Ta_readWord_41]
          refine k_if (fun h8 => ?_) (fun h8 => ?_)
          ·
            refine k_bd (q_Ta_signAt d (by omega) _ _) (fun s_9 x_9 g_9 => ?_)
            obtain ⟨e_9, b_9⟩ := g_9
            have e_9 := e_9.symm
            subst e_9
            refine k_if (fun h10 => ?_) (fun h10 => ?_)
            ·
              refine k_bd (q_Ta_signAt d (by omega) _ _) (fun s_11 x_11 g_11 => ?_)
              obtain ⟨e_11, b_11⟩ := g_11
              have e_11 := e_11.symm
              subst e_11
              refine k_if (fun h12 => ?_) (fun h12 => ?_)
              ·
                refine k_bd (q_Ta_signAt d (by omega) _ _) (fun s_13 x_13 g_13 => ?_)
                obtain ⟨e_13, b_13⟩ := g_13
                have e_13 := e_13.symm
                subst e_13
                refine k_if (fun h14 => ?_) (fun h14 => ?_)
                ·
                  refine k_bd (q_Ta_signAt d (by omega) _ _) (fun s_15 x_15 g_15 => ?_)
                  obtain ⟨e_15, b_15⟩ := g_15
                  have e_15 := e_15.symm
                  subst e_15
                  refine k_if (fun h16 => ?_) (fun h16 => ?_)
                  ·
                    rw [e_Ta_readWord_114]
                    rw [e_Ta_readWord_119]
                    refine k_if (fun h17 => ?_) (fun h17 => ?_)
                    ·
                      exact k_some ⟨(k_F.puf (k_F.puf k_F.rf rfl) rfl), k_b0⟩
                    ·
                      refine k_if (fun h18 => ?_) (fun h18 => ?_)
                      ·
                        exact k_some ⟨(k_F.puf (k_F.puf k_F.rf rfl) rfl), k_b0⟩
                      ·
                        exact k_some ⟨(k_F.puf (k_F.puf k_F.rf rfl) rfl), k_b0⟩
                  ·
                    rw [e_Ta_readWord_118]
                    rw [e_Ta_readWord_119]
                    refine k_if (fun h19 => ?_) (fun h19 => ?_)
                    ·
                      exact k_some ⟨(k_F.puf (k_F.puf k_F.rf rfl) rfl), k_b0⟩
                    ·
                      refine k_if (fun h20 => ?_) (fun h20 => ?_)
                      ·
                        exact k_some ⟨(k_F.puf (k_F.puf k_F.rf rfl) rfl), k_b0⟩
                      ·
                        exact k_some ⟨(k_F.puf (k_F.puf k_F.rf rfl) rfl), k_b0⟩
                ·
                  rw [e_Ta_readWord_118]
                  rw [e_Ta_readWord_119]
                  refine k_if (fun h21 => ?_) (fun h21 => ?_)
                  ·
                    exact k_some ⟨(k_F.puf (k_F.puf k_F.rf rfl) rfl), k_b0⟩
                  ·
                    refine k_if (fun h22 => ?_) (fun h22 => ?_)
                    ·
                      exact k_some ⟨(k_F.puf (k_F.puf k_F.rf rfl) rfl), k_b0⟩
                    ·
                      exact k_some ⟨(k_F.puf (k_F.puf k_F.rf rfl) rfl), k_b0⟩
              ·
                rw [e_Ta_readWord_118]
                rw [e_Ta_readWord_119]
                refine k_if (fun h23 => ?_) (fun h23 => ?_)
                ·
                  exact k_some ⟨(k_F.puf (k_F.puf k_F.rf rfl) rfl), k_b0⟩
                ·
                  refine k_if (fun h24 => ?_) (fun h24 => ?_)
                  ·
                    exact k_some ⟨(k_F.puf (k_F.puf k_F.rf rfl) rfl), k_b0⟩
                  ·
                    exact k_some ⟨(k_F.puf (k_F.puf k_F.rf rfl) rfl), k_b0⟩
            ·
              rw [e_Ta_readWord_118]
              rw [e_Ta_readWord_119]
              refine k_if (fun h25 => ?_) (fun h25 => ?_)
              ·
                exact k_some ⟨(k_F.puf (k_F.puf k_F.rf rfl) rfl), k_b0⟩
              ·
                refine k_if (fun h26 => ?_) (fun h26 => ?_)
                ·
                  exact k_some ⟨(k_F.puf (k_F.puf k_F.rf rfl) rfl), k_b0⟩
                ·
                  exact k_some ⟨(k_F.puf (k_F.puf k_F.rf rfl) rfl), k_b0⟩
          ·
            rw [e_Ta_readWord_118]
            rw [e_Ta_readWord_119]
            refine k_if (fun h27 => ?_) (fun h27 => ?_)
            ·
              exact k_some ⟨(k_F.puf (k_F.puf k_F.rf rfl) rfl), k_b0⟩
            ·
              refine k_if (fun h28 => ?_) (fun h28 => ?_)
              ·
                exact k_some ⟨(k_F.puf (k_F.puf k_F.rf rfl) rfl), k_b0⟩
              ·
                exact k_some ⟨(k_F.puf (k_F.puf k_F.rf rfl) rfl), k_b0⟩
        ·
          exact k_mono (q_Ta_readWord_5 d hd n _ _ (k_up h1 hn)) (fun σ r g => ⟨k_F.tr k_F.rf g.1, g.2⟩)
      ·
        exact k_mono (q_Ta_readWord_5 d hd n _ _ (k_up h1 hn)) (fun σ r g => ⟨k_F.tr k_F.rf g.1, g.2⟩)
    ·
      rw [e_Ta_readWord_41]
      refine k_if (fun h29 => ?_) (fun h29 => ?_)
      ·
        refine k_bd (q_Ta_signAt d (by omega) _ _) (fun s_30 x_30 g_30 => ?_)
        obtain ⟨e_30, b_30⟩ := g_30
        have e_30 := e_30.symm
        subst e_30
        refine k_if (fun h31 => ?_) (fun h31 => ?_)
        ·
          refine k_bd (q_Ta_signAt d (by omega) _ _) (fun s_32 x_32 g_32 => ?_)
          obtain ⟨e_32, b_32⟩ := g_32
          have e_32 := e_32.symm
          subst e_32
          refine k_if (fun h33 => ?_) (fun h33 => ?_)
          ·
            refine k_bd (q_Ta_signAt d (by omega) _ _) (fun s_34 x_34 g_34 => ?_)
            obtain ⟨e_34, b_34⟩ := g_34
            have e_34 := e_34.symm
            subst e_34
            refine k_if (fun h35 => ?_) (fun h35 => ?_)
            ·
              refine k_bd (q_Ta_signAt d (by omega) _ _) (fun s_36 x_36 g_36 => ?_)
              obtain ⟨e_36, b_36⟩ := g_36
              have e_36 := e_36.symm
              subst e_36
              refine k_if (fun h37 => ?_) (fun h37 => ?_)
              ·
                rw [e_Ta_readWord_114]
                rw [e_Ta_readWord_119]
                refine k_if (fun h38 => ?_) (fun h38 => ?_)
                ·
                  exact k_some ⟨(k_F.puf (k_F.puf k_F.rf rfl) rfl), k_b0⟩
                ·
                  refine k_if (fun h39 => ?_) (fun h39 => ?_)
                  ·
                    exact k_some ⟨(k_F.puf (k_F.puf k_F.rf rfl) rfl), k_b0⟩
                  ·
                    exact k_some ⟨(k_F.puf (k_F.puf k_F.rf rfl) rfl), k_b0⟩
              ·
                rw [e_Ta_readWord_118]
                rw [e_Ta_readWord_119]
                refine k_if (fun h40 => ?_) (fun h40 => ?_)
                ·
                  exact k_some ⟨(k_F.puf (k_F.puf k_F.rf rfl) rfl), k_b0⟩
                ·
                  refine k_if (fun h41 => ?_) (fun h41 => ?_)
                  ·
                    exact k_some ⟨(k_F.puf (k_F.puf k_F.rf rfl) rfl), k_b0⟩
                  ·
                    exact k_some ⟨(k_F.puf (k_F.puf k_F.rf rfl) rfl), k_b0⟩
            ·
              rw [e_Ta_readWord_118]
              rw [e_Ta_readWord_119]
              refine k_if (fun h42 => ?_) (fun h42 => ?_)
              ·
                exact k_some ⟨(k_F.puf (k_F.puf k_F.rf rfl) rfl), k_b0⟩
              ·
                refine k_if (fun h43 => ?_) (fun h43 => ?_)
                ·
                  exact k_some ⟨(k_F.puf (k_F.puf k_F.rf rfl) rfl), k_b0⟩
                ·
                  exact k_some ⟨(k_F.puf (k_F.puf k_F.rf rfl) rfl), k_b0⟩
          ·
            rw [e_Ta_readWord_118]
            rw [e_Ta_readWord_119]
            refine k_if (fun h44 => ?_) (fun h44 => ?_)
            ·
              exact k_some ⟨(k_F.puf (k_F.puf k_F.rf rfl) rfl), k_b0⟩
            ·
              refine k_if (fun h45 => ?_) (fun h45 => ?_)
              ·
                exact k_some ⟨(k_F.puf (k_F.puf k_F.rf rfl) rfl), k_b0⟩
              ·
                exact k_some ⟨(k_F.puf (k_F.puf k_F.rf rfl) rfl), k_b0⟩
        ·
          rw [e_Ta_readWord_118]
          rw [e_Ta_readWord_119]
          refine k_if (fun h46 => ?_) (fun h46 => ?_)
          ·
            exact k_some ⟨(k_F.puf (k_F.puf k_F.rf rfl) rfl), k_b0⟩
          ·
            refine k_if (fun h47 => ?_) (fun h47 => ?_)
            ·
              exact k_some ⟨(k_F.puf (k_F.puf k_F.rf rfl) rfl), k_b0⟩
            ·
              exact k_some ⟨(k_F.puf (k_F.puf k_F.rf rfl) rfl), k_b0⟩
      ·
        rw [e_Ta_readWord_118]
        rw [e_Ta_readWord_119]
        refine k_if (fun h48 => ?_) (fun h48 => ?_)
        ·
          exact k_some ⟨(k_F.puf (k_F.puf k_F.rf rfl) rfl), k_b0⟩
        ·
          refine k_if (fun h49 => ?_) (fun h49 => ?_)
          ·
            exact k_some ⟨(k_F.puf (k_F.puf k_F.rf rfl) rfl), k_b0⟩
          ·
            exact k_some ⟨(k_F.puf (k_F.puf k_F.rf rfl) rfl), k_b0⟩
theorem q_Ta_readWord (d : Nat) (hd : 2 ≤ d)  (s : c_S) : k_ok (c_M d 222 [v_r 1] s) (fun σ r => k_F [1] [(1, 1), (27, 5), (27, 10), (27, 11)] s σ ∧ k_b 0 r) := by
  obtain ⟨d, rfl⟩ : ∃ e, d = e + 1 := ⟨d - 1, by omega⟩
  rw [m_Ta_readWord, e_Ta_readWord_0]
  exact k_mono (q_Ta_readWord_5 d hd _ _ _ (Nat.lt_succ_self _)) (fun σ r g => ⟨k_F.tr k_F.rf g.1, g.2⟩)
theorem q_Ta_advance_5 (d : Nat) (hd : 3 ≤ d + 1) : ∀ (n : Nat) (i1 : Int32) (s : c_S), k_m i1 < n → k_ok (b_Ta_advance_5 (c_M d) i1 s) (fun σ r => k_F [1] [(1, 1), (27, 5), (27, 10), (27, 11)] s σ ∧ k_b 0 r)
  | 0, i1, s, hn => absurd hn (Nat.not_lt_zero _)
  | n + 1, i1, s, hn => by
    rw [e_Ta_advance_5]
    refine k_if (fun h1 => ?_) (fun h1 => ?_)
    ·
      refine k_bd (q_Ta_signAt d (by omega) _ _) (fun s_2 x_2 g_2 => ?_)
      obtain ⟨e_2, b_2⟩ := g_2
      have e_2 := e_2.symm
      subst e_2
      refine k_bd (q_Ta_isBlank d (by omega) _ _) (fun s_3 x_3 g_3 => ?_)
      obtain ⟨e_3, b_3⟩ := g_3
      have e_3 := e_3.symm
      subst e_3
      refine k_if (fun h4 => ?_) (fun h4 => ?_)
      ·
        rw [e_Ta_advance_30]
        refine k_if (fun h5 => ?_) (fun h5 => ?_)
        ·
          refine k_bd (q_Ta_signAt d (by omega) _ _) (fun s_6 x_6 g_6 => ?_)
          obtain ⟨e_6, b_6⟩ := g_6
          have e_6 := e_6.symm
          subst e_6
          refine k_bd (q_Fb_isLetter d (by omega) _ _) (fun s_7 x_7 g_7 => ?_)
          obtain ⟨e_7, b_7⟩ := g_7
          have e_7 := e_7.symm
          subst e_7
          refine k_if (fun h8 => ?_) (fun h8 => ?_)
          ·
            refine k_bd (q_Ta_signAt d (by omega) _ _) (fun s_9 x_9 g_9 => ?_)
            obtain ⟨e_9, b_9⟩ := g_9
            have e_9 := e_9.symm
            subst e_9
            refine k_bd (q_Ta_isMark d (by omega) _ _) (fun s_10 x_10 g_10 => ?_)
            obtain ⟨e_10, b_10⟩ := g_10
            have e_10 := e_10.symm
            subst e_10
            refine k_if (fun h11 => ?_) (fun h11 => ?_)
            ·
              rw [e_Ta_advance_98]
              exact k_some ⟨(k_F.puf (k_F.puf (k_F.puf k_F.rf rfl) rfl) rfl), k_b0⟩
            ·
              refine k_bd (q_Ta_signAt d (by omega) _ _) (fun s_12 x_12 g_12 => ?_)
              obtain ⟨e_12, b_12⟩ := g_12
              have e_12 := e_12.symm
              subst e_12
              rw [e_Ta_advance_98]
              exact k_some ⟨(k_F.puf (k_F.puf (k_F.puf k_F.rf rfl) rfl) rfl), k_b0⟩
          ·
            refine k_bd (q_Ta_readWord d (by omega)  _) (fun s_13 x_13 g_13 => ?_)
            have f_13 : k_F [1] [(1, 1), (27, 5), (27, 10), (27, 11)] s s_13 := k_F.tr (k_F.puf k_F.rf rfl) (k_F.mono g_13.1 rfl)
            exact k_some ⟨f_13, k_b0⟩
        ·
          exact k_some ⟨(k_F.puf (k_F.puf (k_F.puf k_F.rf rfl) rfl) rfl), k_b0⟩
      ·
        exact k_mono (q_Ta_advance_5 d hd n _ _ (k_up h1 hn)) (fun σ r g => ⟨k_F.tr k_F.rf g.1, g.2⟩)
    ·
      rw [e_Ta_advance_30]
      refine k_if (fun h14 => ?_) (fun h14 => ?_)
      ·
        refine k_bd (q_Ta_signAt d (by omega) _ _) (fun s_15 x_15 g_15 => ?_)
        obtain ⟨e_15, b_15⟩ := g_15
        have e_15 := e_15.symm
        subst e_15
        refine k_bd (q_Fb_isLetter d (by omega) _ _) (fun s_16 x_16 g_16 => ?_)
        obtain ⟨e_16, b_16⟩ := g_16
        have e_16 := e_16.symm
        subst e_16
        refine k_if (fun h17 => ?_) (fun h17 => ?_)
        ·
          refine k_bd (q_Ta_signAt d (by omega) _ _) (fun s_18 x_18 g_18 => ?_)
          obtain ⟨e_18, b_18⟩ := g_18
          have e_18 := e_18.symm
          subst e_18
          refine k_bd (q_Ta_isMark d (by omega) _ _) (fun s_19 x_19 g_19 => ?_)
          obtain ⟨e_19, b_19⟩ := g_19
          have e_19 := e_19.symm
          subst e_19
          refine k_if (fun h20 => ?_) (fun h20 => ?_)
          ·
            rw [e_Ta_advance_98]
            exact k_some ⟨(k_F.puf (k_F.puf (k_F.puf k_F.rf rfl) rfl) rfl), k_b0⟩
          ·
            refine k_bd (q_Ta_signAt d (by omega) _ _) (fun s_21 x_21 g_21 => ?_)
            obtain ⟨e_21, b_21⟩ := g_21
            have e_21 := e_21.symm
            subst e_21
            rw [e_Ta_advance_98]
            exact k_some ⟨(k_F.puf (k_F.puf (k_F.puf k_F.rf rfl) rfl) rfl), k_b0⟩
        ·
          refine k_bd (q_Ta_readWord d (by omega)  _) (fun s_22 x_22 g_22 => ?_)
          have f_22 : k_F [1] [(1, 1), (27, 5), (27, 10), (27, 11)] s s_22 := k_F.tr (k_F.puf k_F.rf rfl) (k_F.mono g_22.1 rfl)
          exact k_some ⟨f_22, k_b0⟩
      ·
        exact k_some ⟨(k_F.puf (k_F.puf (k_F.puf k_F.rf rfl) rfl) rfl), k_b0⟩
theorem q_Ta_advance (d : Nat) (hd : 3 ≤ d)  (s : c_S) : k_ok (c_M d 221 [v_r 1] s) (fun σ r => k_F [1] [(1, 1), (27, 5), (27, 10), (27, 11)] s σ ∧ k_b 0 r) := by
  obtain ⟨d, rfl⟩ : ∃ e, d = e + 1 := ⟨d - 1, by omega⟩
  rw [m_Ta_advance, e_Ta_advance_0]
  exact k_mono (q_Ta_advance_5 d hd _ _ _ (Nat.lt_succ_self _)) (fun σ r g => ⟨k_F.tr k_F.rf g.1, g.2⟩)
theorem q_Ta_rewind (d : Nat) (hd : 4 ≤ d)  (s : c_S) : k_ok (c_M d 220 [v_r 1] s) (fun σ r => k_F [1] [(1, 1), (27, 5), (27, 10), (27, 11)] s σ ∧ k_b 0 r) := by
  obtain ⟨d, rfl⟩ : ∃ e, d = e + 1 := ⟨d - 1, by omega⟩
  rw [m_Ta_rewind, e_Ta_rewind_0]
  refine k_bd (q_Ta_advance d (by omega)  _) (fun s_1 x_1 g_1 => ?_)
  have f_1 : k_F [1] [(1, 1), (27, 5), (27, 10), (27, 11)] s s_1 := k_F.tr (k_F.puf k_F.rf rfl) (k_F.mono g_1.1 rfl)
  exact k_some ⟨f_1, k_b0⟩
theorem q_Re_begin (d : Nat) (hd : 5 ≤ d)  (s : c_S) : k_ok (c_M d 189 [v_r 27] s) (fun σ r => k_F [1, 27] [(1, 1), (27, 5), (27, 10), (27, 11)] s σ ∧ k_b 0 r) := by
  obtain ⟨d, rfl⟩ : ∃ e, d = e + 1 := ⟨d - 1, by omega⟩
  rw [m_Re_begin, e_Re_begin_0]
  refine k_bd (q_Ta_rewind d (by omega)  _) (fun s_1 x_1 g_1 => ?_)
  have f_1 : k_F [1, 27] [(1, 1), (27, 5), (27, 10), (27, 11)] s s_1 := k_F.tr (k_F.puf k_F.rf rfl) (k_F.mono g_1.1 rfl)
  exact k_some ⟨f_1, k_b0⟩
theorem q_Fb_begin (d : Nat) (hd : 6 ≤ d)  (s : c_S) : k_ok (c_M d 11 [v_r 0] s) (fun σ r => k_F [1, 18, 19, 27] [(1, 1), (27, 5), (27, 10), (27, 11)] s σ ∧ k_b 0 r) := by
  obtain ⟨d, rfl⟩ : ∃ e, d = e + 1 := ⟨d - 1, by omega⟩
  rw [m_Fb_begin, e_Fb_begin_0]
  refine k_bd (q_Me_begin d (by omega)  _) (fun s_1 x_1 g_1 => ?_)
  have f_1 : k_F [1, 18, 19, 27] [(1, 1), (27, 5), (27, 10), (27, 11)] s s_1 := k_F.tr k_F.rf (k_F.mono g_1.1 rfl)
  refine k_bd (q_Ce_release d (by omega) _ _) (fun s_2 x_2 g_2 => ?_)
  have f_2 : k_F [1, 18, 19, 27] [(1, 1), (27, 5), (27, 10), (27, 11)] s s_2 := k_F.tr f_1 (k_F.mono g_2.1 rfl)
  refine k_bd (q_Re_begin d (by omega)  _) (fun s_3 x_3 g_3 => ?_)
  have f_3 : k_F [1, 18, 19, 27] [(1, 1), (27, 5), (27, 10), (27, 11)] s s_3 := k_F.tr f_2 (k_F.mono g_3.1 rfl)
  exact k_some ⟨f_3, k_b0⟩
theorem q_No_mark (d : Nat) (hd : 1 ≤ d)  (s : c_S) : k_ok (c_M d 168 [v_r 3] s) (fun σ r => σ = s ∧ k_b 1 r) := by
  obtain ⟨d, rfl⟩ : ∃ e, d = e + 1 := ⟨d - 1, by omega⟩
  rw [m_No_mark, e_No_mark_0]
  exact k_some ⟨rfl, k_b1⟩
theorem q_No_release (d : Nat) (hd : 1 ≤ d) (i1 : Int32) (s : c_S) : k_ok (c_M d 169 [v_r 3, v_i i1] s) (fun σ r => k_F [3] [(1, 1), (27, 5), (27, 10), (27, 11)] s σ ∧ k_b 0 r) := by
  obtain ⟨d, rfl⟩ : ∃ e, d = e + 1 := ⟨d - 1, by omega⟩
  rw [m_No_release, e_No_release_0]
  refine k_if (fun h1 => ?_) (fun h1 => ?_)
  ·
    exact k_some ⟨k_F.rf, k_b0⟩
  ·
    refine k_if (fun h2 => ?_) (fun h2 => ?_)
    ·
      exact k_some ⟨(k_F.puf k_F.rf rfl), k_b0⟩
    ·
      exact k_some ⟨k_F.rf, k_b0⟩
theorem q_Re_bodyRoot (d : Nat) (hd : 1 ≤ d)  (s : c_S) : k_ok (c_M d 194 [v_r 27] s) (fun σ r => σ = s ∧ k_b 1 r) := by
  obtain ⟨d, rfl⟩ : ∃ e, d = e + 1 := ⟨d - 1, by omega⟩
  rw [m_Re_bodyRoot, e_Re_bodyRoot_0]
  exact k_some ⟨rfl, k_b1⟩
theorem q_Co_nameLength (d : Nat) (hd : 1 ≤ d) (i1 : Int32) (s : c_S) : k_ok (c_M d 136 [v_r 11, v_i i1] s) (fun σ r => σ = s ∧ k_b 1 r) := by
  obtain ⟨d, rfl⟩ : ∃ e, d = e + 1 := ⟨d - 1, by omega⟩
  rw [m_Co_nameLength, e_Co_nameLength_0]
  refine k_if (fun h1 => ?_) (fun h1 => ?_)
  ·
    exact k_some ⟨rfl, k_b1⟩
  ·
    refine k_if (fun h2 => ?_) (fun h2 => ?_)
    ·
      refine k_rg (k_in h1 h2 (by decide)) ?_
      exact k_some ⟨rfl, k_b1⟩
    ·
      exact k_some ⟨rfl, k_b1⟩
theorem q_Co_nameSign (d : Nat) (hd : 1 ≤ d) (i1 : Int32) (i2 : Int32) (s : c_S) : k_ok (c_M d 137 [v_r 11, v_i i1, v_i i2] s) (fun σ r => σ = s ∧ k_b 1 r) := by
  obtain ⟨d, rfl⟩ : ∃ e, d = e + 1 := ⟨d - 1, by omega⟩
  rw [m_Co_nameSign, e_Co_nameSign_0]
  refine k_if (fun h1 => ?_) (fun h1 => ?_)
  ·
    exact k_some ⟨rfl, k_b1⟩
  ·
    refine k_if (fun h2 => ?_) (fun h2 => ?_)
    ·
      refine k_if (fun h3 => ?_) (fun h3 => ?_)
      ·
        exact k_some ⟨rfl, k_b1⟩
      ·
        refine k_if (fun h4 => ?_) (fun h4 => ?_)
        ·
          refine k_rg (k_in h3 h4 (by decide)) ?_
          exact k_some ⟨rfl, k_b1⟩
        ·
          exact k_some ⟨rfl, k_b1⟩
    ·
      exact k_some ⟨rfl, k_b1⟩
theorem q_Co_isNamed_3 (d : Nat) (hd : 2 ≤ d + 1) : ∀ (n : Nat) (i1 : Int32) (i3 : Int32) (i4 : Int32) (s : c_S), k_m i4 < n → k_ok (b_Co_isNamed_3 (c_M d) i1 i3 i4 s) (fun σ r => σ = s ∧ k_b 2 r)
  | 0, i1, i3, i4, s, hn => absurd hn (Nat.not_lt_zero _)
  | n + 1, i1, i3, i4, s, hn => by
    rw [e_Co_isNamed_3]
    refine k_bd (q_Co_nameLength d (by omega) _ _) (fun s_1 x_1 g_1 => ?_)
    obtain ⟨e_1, b_1⟩ := g_1
    have e_1 := e_1.symm
    subst e_1
    refine k_if (fun h2 => ?_) (fun h2 => ?_)
    ·
      refine k_bd (q_Co_nameSign d (by omega) _ _ _) (fun s_3 x_3 g_3 => ?_)
      obtain ⟨e_3, b_3⟩ := g_3
      have e_3 := e_3.symm
      subst e_3
      refine k_bd (q_Ta_signAt d (by omega) _ _) (fun s_4 x_4 g_4 => ?_)
      obtain ⟨e_4, b_4⟩ := g_4
      have e_4 := e_4.symm
      subst e_4
      refine k_if (fun h5 => ?_) (fun h5 => ?_)
      ·
        exact q_Co_isNamed_3 d hd n _ _ _ _ (k_up h2 hn)
      ·
        exact k_some ⟨rfl, (k_b2 (by decide))⟩
    ·
      exact k_some ⟨rfl, (k_b2 (by decide))⟩
theorem q_Co_isNamed (d : Nat) (hd : 2 ≤ d) (i1 : Int32) (i3 : Int32) (s : c_S) : k_ok (c_M d 142 [v_r 11, v_i i1, v_r 1, v_i i3] s) (fun σ r => σ = s ∧ k_b 2 r) := by
  obtain ⟨d, rfl⟩ : ∃ e, d = e + 1 := ⟨d - 1, by omega⟩
  rw [m_Co_isNamed, e_Co_isNamed_0]
  exact q_Co_isNamed_3 d hd _ _ _ _ _ (Nat.lt_succ_self _)
theorem q_Co_find_3 (d : Nat) (hd : 3 ≤ d + 1) : ∀ (n : Nat) (i2 : Int32) (i3 : Int32) (i4 : Int32) (s : c_S), k_m i4 < n → k_ok (b_Co_find_3 (c_M d) i2 i3 i4 s) (fun σ r => σ = s ∧ k_b 1 r)
  | 0, i2, i3, i4, s, hn => absurd hn (Nat.not_lt_zero _)
  | n + 1, i2, i3, i4, s, hn => by
    rw [e_Co_find_3]
    refine k_if (fun h1 => ?_) (fun h1 => ?_)
    ·
      refine k_bd (q_Co_nameLength d (by omega) _ _) (fun s_2 x_2 g_2 => ?_)
      obtain ⟨e_2, b_2⟩ := g_2
      have e_2 := e_2.symm
      subst e_2
      refine k_if (fun h3 => ?_) (fun h3 => ?_)
      ·
        refine k_bd (q_Co_isNamed d (by omega) _ _ _) (fun s_4 x_4 g_4 => ?_)
        obtain ⟨e_4, b_4⟩ := g_4
        have e_4 := e_4.symm
        subst e_4
        refine k_if (fun h5 => ?_) (fun h5 => ?_)
        ·
          exact q_Co_find_3 d hd n _ _ _ _ (k_up h1 hn)
        ·
          exact k_some ⟨rfl, k_b1⟩
      ·
        exact q_Co_find_3 d hd n _ _ _ _ (k_up h1 hn)
    ·
      exact k_some ⟨rfl, k_b1⟩
theorem q_Co_find (d : Nat) (hd : 3 ≤ d) (i2 : Int32) (i3 : Int32) (s : c_S) : k_ok (c_M d 141 [v_r 11, v_r 1, v_i i2, v_i i3] s) (fun σ r => σ = s ∧ k_b 1 r) := by
  obtain ⟨d, rfl⟩ : ∃ e, d = e + 1 := ⟨d - 1, by omega⟩
  rw [m_Co_find, e_Co_find_0]
  exact q_Co_find_3 d hd _ _ _ _ _ (Nat.lt_succ_self _)
theorem q_Co_full (d : Nat) (hd : 1 ≤ d)  (s : c_S) : k_ok (c_M d 131 [v_r 11] s) (fun σ r => σ = s ∧ k_b 2 r) := by
  obtain ⟨d, rfl⟩ : ∃ e, d = e + 1 := ⟨d - 1, by omega⟩
  rw [m_Co_full, e_Co_full_0]
  refine k_if (fun h1 => ?_) (fun h1 => ?_)
  ·
    exact k_some ⟨rfl, (k_b2 (by decide))⟩
  ·
    exact k_some ⟨rfl, (k_b2 (by decide))⟩
theorem q_Ta_place (d : Nat) (hd : 1 ≤ d)  (s : c_S) : k_ok (c_M d 217 [v_r 1] s) (fun σ r => σ = s ∧ k_b 1 r) := by
  obtain ⟨d, rfl⟩ : ∃ e, d = e + 1 := ⟨d - 1, by omega⟩
  rw [m_Ta_place, e_Ta_place_0]
  exact k_some ⟨rfl, k_b1⟩
theorem q_Re_refuse (d : Nat) (hd : 2 ≤ d) (i1 : Int32) (s : c_S) : k_ok (c_M d 199 [v_r 27, v_i i1] s) (fun σ r => k_F [27] [(1, 1), (27, 5), (27, 10), (27, 11)] s σ ∧ k_b 1 r) := by
  obtain ⟨d, rfl⟩ : ∃ e, d = e + 1 := ⟨d - 1, by omega⟩
  rw [m_Re_refuse, e_Re_refuse_0]
  refine k_if (fun h1 => ?_) (fun h1 => ?_)
  ·
    refine k_bd (q_Ta_place d (by omega)  _) (fun s_2 x_2 g_2 => ?_)
    obtain ⟨e_2, b_2⟩ := g_2
    have e_2 := e_2.symm
    subst e_2
    refine k_bd (q_Fb_faultAt d (by omega) _ _ _) (fun s_3 x_3 g_3 => ?_)
    obtain ⟨e_3, b_3⟩ := g_3
    have e_3 := e_3.symm
    subst e_3
    exact k_some ⟨(k_F.puf k_F.rf rfl), k_b1⟩
  ·
    exact k_some ⟨k_F.rf, k_b1⟩
theorem q_Ta_token (d : Nat) (hd : 1 ≤ d)  (s : c_S) : k_ok (c_M d 216 [v_r 1] s) (fun σ r => σ = s ∧ k_b 1 r) := by
  obtain ⟨d, rfl⟩ : ∃ e, d = e + 1 := ⟨d - 1, by omega⟩
  rw [m_Ta_token, e_Ta_token_0]
  exact k_some ⟨rfl, k_b1⟩
theorem q_Ta_wordLength (d : Nat) (hd : 1 ≤ d)  (s : c_S) : k_ok (c_M d 218 [v_r 1] s) (fun σ r => σ = s ∧ k_b 1 r) := by
  obtain ⟨d, rfl⟩ : ∃ e, d = e + 1 := ⟨d - 1, by omega⟩
  rw [m_Ta_wordLength, e_Ta_wordLength_0]
  exact k_some ⟨rfl, k_b1⟩
theorem q_Re_readNewName (d : Nat) (hd : 4 ≤ d)  (s : c_S) : k_ok (c_M d 197 [v_r 27] s) (fun σ r => k_F [1, 27] [(1, 1), (27, 5), (27, 10), (27, 11)] s σ ∧ k_b 0 r) := by
  obtain ⟨d, rfl⟩ : ∃ e, d = e + 1 := ⟨d - 1, by omega⟩
  rw [m_Re_readNewName, e_Re_readNewName_0]
  refine k_bd (q_Ta_place d (by omega)  _) (fun s_1 x_1 g_1 => ?_)
  obtain ⟨e_1, b_1⟩ := g_1
  have e_1 := e_1.symm
  subst e_1
  refine k_bd (q_Ta_wordLength d (by omega)  _) (fun s_2 x_2 g_2 => ?_)
  obtain ⟨e_2, b_2⟩ := g_2
  have e_2 := e_2.symm
  subst e_2
  refine k_bd (q_Ta_token d (by omega)  _) (fun s_3 x_3 g_3 => ?_)
  obtain ⟨e_3, b_3⟩ := g_3
  have e_3 := e_3.symm
  subst e_3
  refine k_if (fun h4 => ?_) (fun h4 => ?_)
  ·
    refine k_bd (q_Co_find d (by omega) _ _ _) (fun s_5 x_5 g_5 => ?_)
    obtain ⟨e_5, b_5⟩ := g_5
    have e_5 := e_5.symm
    subst e_5
    refine k_if (fun h6 => ?_) (fun h6 => ?_)
    ·
      refine k_bd (q_Co_full d (by omega)  _) (fun s_7 x_7 g_7 => ?_)
      obtain ⟨e_7, b_7⟩ := g_7
      have e_7 := e_7.symm
      subst e_7
      refine k_if (fun h8 => ?_) (fun h8 => ?_)
      ·
        rw [e_Re_readNewName_93]
        refine k_bd (q_Ta_advance d (by omega)  _) (fun s_9 x_9 g_9 => ?_)
        have f_9 : k_F [1, 27] [(1, 1), (27, 5), (27, 10), (27, 11)] s s_9 := k_F.tr (k_F.puf (k_F.puf k_F.rf rfl) rfl) (k_F.mono g_9.1 rfl)
        exact k_some ⟨f_9, k_b0⟩
      ·
        rw [e_Re_readNewName_84]
        refine k_bd (q_Re_refuse d (by omega) _ _) (fun s_10 x_10 g_10 => ?_)
        have f_10 : k_F [1, 27] [(1, 1), (27, 5), (27, 10), (27, 11)] s s_10 := k_F.tr (k_F.puf (k_F.puf k_F.rf rfl) rfl) (k_F.mono g_10.1 rfl)
        exact k_some ⟨f_10, k_b0⟩
    ·
      refine k_bd (q_Re_refuse d (by omega) _ _) (fun s_11 x_11 g_11 => ?_)
      have f_11 : k_F [1, 27] [(1, 1), (27, 5), (27, 10), (27, 11)] s s_11 := k_F.tr (k_F.puf (k_F.puf k_F.rf rfl) rfl) (k_F.mono g_11.1 rfl)
      exact k_some ⟨f_11, k_b0⟩
  ·
    refine k_bd (q_Re_refuse d (by omega) _ _) (fun s_12 x_12 g_12 => ?_)
    have f_12 : k_F [1, 27] [(1, 1), (27, 5), (27, 10), (27, 11)] s s_12 := k_F.tr (k_F.puf (k_F.puf k_F.rf rfl) rfl) (k_F.mono g_12.1 rfl)
    exact k_some ⟨f_12, k_b0⟩
theorem q_Re_take (d : Nat) (hd : 4 ≤ d) (i1 : Int32) (s : c_S) : k_ok (c_M d 198 [v_r 27, v_i i1] s) (fun σ r => k_F [1, 27] [(1, 1), (27, 5), (27, 10), (27, 11)] s σ ∧ k_b 0 r) := by
  obtain ⟨d, rfl⟩ : ∃ e, d = e + 1 := ⟨d - 1, by omega⟩
  rw [m_Re_take, e_Re_take_0]
  refine k_if (fun h1 => ?_) (fun h1 => ?_)
  ·
    refine k_bd (q_Ta_token d (by omega)  _) (fun s_2 x_2 g_2 => ?_)
    obtain ⟨e_2, b_2⟩ := g_2
    have e_2 := e_2.symm
    subst e_2
    refine k_if (fun h3 => ?_) (fun h3 => ?_)
    ·
      refine k_bd (q_Ta_advance d (by omega)  _) (fun s_4 x_4 g_4 => ?_)
      have f_4 : k_F [1, 27] [(1, 1), (27, 5), (27, 10), (27, 11)] s s_4 := k_F.tr k_F.rf (k_F.mono g_4.1 rfl)
      exact k_some ⟨f_4, k_b0⟩
    ·
      refine k_bd (q_Re_refuse d (by omega) _ _) (fun s_5 x_5 g_5 => ?_)
      have f_5 : k_F [1, 27] [(1, 1), (27, 5), (27, 10), (27, 11)] s s_5 := k_F.tr k_F.rf (k_F.mono g_5.1 rfl)
      exact k_some ⟨f_5, k_b0⟩
  ·
    exact k_some ⟨k_F.rf, k_b0⟩
theorem q_No_setSibling (d : Nat) (hd : 1 ≤ d) (i1 : Int32) (i2 : Int32) (s : c_S) : k_ok (c_M d 182 [v_r 3, v_i i1, v_i i2] s) (fun σ r => k_F [7] [(1, 1), (27, 5), (27, 10), (27, 11)] s σ ∧ k_b 0 r) := by
  obtain ⟨d, rfl⟩ : ∃ e, d = e + 1 := ⟨d - 1, by omega⟩
  rw [m_No_setSibling, e_No_setSibling_0]
  refine k_if (fun h1 => ?_) (fun h1 => ?_)
  ·
    refine k_if (fun h2 => ?_) (fun h2 => ?_)
    ·
      refine k_rg (k_in (k_nn1 h1) h2 (by decide)) ?_
      exact k_some ⟨(k_F.put k_F.rf rfl), k_b0⟩
    ·
      exact k_some ⟨k_F.rf, k_b0⟩
  ·
    exact k_some ⟨k_F.rf, k_b0⟩
theorem q_No_full (d : Nat) (hd : 1 ≤ d)  (s : c_S) : k_ok (c_M d 170 [v_r 3] s) (fun σ r => σ = s ∧ k_b 2 r) := by
  obtain ⟨d, rfl⟩ : ∃ e, d = e + 1 := ⟨d - 1, by omega⟩
  rw [m_No_full, e_No_full_0]
  refine k_if (fun h1 => ?_) (fun h1 => ?_)
  ·
    exact k_some ⟨rfl, (k_b2 (by decide))⟩
  ·
    exact k_some ⟨rfl, (k_b2 (by decide))⟩
theorem q_No_make (d : Nat) (hd : 1 ≤ d) (i1 : Int32) (i2 : Int32) (i3 : Int32) (i4 : Int32) (i5 : Int32) (s : c_S) : k_ok (c_M d 171 [v_r 3, v_i i1, v_i i2, v_i i3, v_i i4, v_i i5] s) (fun σ r => k_F [3, 4, 5, 6, 7, 8, 9, 10] [(1, 1), (27, 5), (27, 10), (27, 11)] s σ ∧ k_b 1 r) := by
  obtain ⟨d, rfl⟩ : ∃ e, d = e + 1 := ⟨d - 1, by omega⟩
  rw [m_No_make, e_No_make_0]
  refine k_if (fun h1 => ?_) (fun h1 => ?_)
  ·
    exact k_some ⟨k_F.rf, k_b1⟩
  ·
    refine k_if (fun h2 => ?_) (fun h2 => ?_)
    ·
      refine k_rg (k_in (k_nn2 h1) h2 (by decide)) ?_
      refine k_rg (k_in (k_nn2 h1) h2 (by decide)) ?_
      refine k_rg (k_in (k_nn2 h1) h2 (by decide)) ?_
      refine k_rg (k_in (k_nn2 h1) h2 (by decide)) ?_
      rw [e_No_make_68]
      refine k_rg (k_in (k_nn2 h1) h2 (by decide)) ?_
      refine k_rg (k_in (k_nn2 h1) h2 (by decide)) ?_
      refine k_rg (k_in (k_nn2 h1) h2 (by decide)) ?_
      exact k_some ⟨(k_F.put (k_F.put (k_F.put (k_F.put (k_F.put (k_F.put (k_F.put (k_F.puf k_F.rf rfl) rfl) rfl) rfl) rfl) rfl) rfl) rfl), k_b1⟩
    ·
      exact k_some ⟨k_F.rf, k_b1⟩
theorem q_Re_node (d : Nat) (hd : 3 ≤ d) (i1 : Int32) (i2 : Int32) (i3 : Int32) (i4 : Int32) (i5 : Int32) (s : c_S) : k_ok (c_M d 209 [v_r 27, v_i i1, v_i i2, v_i i3, v_i i4, v_i i5] s) (fun σ r => k_F [3, 4, 5, 6, 7, 8, 9, 10, 27] [(1, 1), (27, 5), (27, 10), (27, 11)] s σ ∧ k_b 1 r) := by
  obtain ⟨d, rfl⟩ : ∃ e, d = e + 1 := ⟨d - 1, by omega⟩
  rw [m_Re_node, e_Re_node_0]
  refine k_bd (q_No_full d (by omega)  _) (fun s_1 x_1 g_1 => ?_)
  obtain ⟨e_1, b_1⟩ := g_1
  have e_1 := e_1.symm
  subst e_1
  refine k_if (fun h2 => ?_) (fun h2 => ?_)
  ·
    refine k_if (fun h3 => ?_) (fun h3 => ?_)
    ·
      refine k_bd (q_No_make d (by omega) _ _ _ _ _ _) (fun s_4 x_4 g_4 => ?_)
      have f_4 : k_F [3, 4, 5, 6, 7, 8, 9, 10, 27] [(1, 1), (27, 5), (27, 10), (27, 11)] s s_4 := k_F.tr k_F.rf (k_F.mono g_4.1 rfl)
      exact k_some ⟨f_4, k_b1⟩
    ·
      exact k_some ⟨k_F.rf, k_b1⟩
  ·
    refine k_bd (q_Re_refuse d (by omega) _ _) (fun s_5 x_5 g_5 => ?_)
    have f_5 : k_F [3, 4, 5, 6, 7, 8, 9, 10, 27] [(1, 1), (27, 5), (27, 10), (27, 11)] s s_5 := k_F.tr k_F.rf (k_F.mono g_5.1 rfl)
    exact k_some ⟨f_5, k_b1⟩
theorem q_No_setPlace (d : Nat) (hd : 1 ≤ d) (i1 : Int32) (i2 : Int32) (s : c_S) : k_ok (c_M d 181 [v_r 3, v_i i1, v_i i2] s) (fun σ r => k_F [10] [(1, 1), (27, 5), (27, 10), (27, 11)] s σ ∧ k_b 0 r) := by
  obtain ⟨d, rfl⟩ : ∃ e, d = e + 1 := ⟨d - 1, by omega⟩
  rw [m_No_setPlace, e_No_setPlace_0]
  refine k_if (fun h1 => ?_) (fun h1 => ?_)
  ·
    refine k_if (fun h2 => ?_) (fun h2 => ?_)
    ·
      refine k_rg (k_in (k_nn1 h1) h2 (by decide)) ?_
      exact k_some ⟨(k_F.put k_F.rf rfl), k_b0⟩
    ·
      exact k_some ⟨k_F.rf, k_b0⟩
  ·
    exact k_some ⟨k_F.rf, k_b0⟩
theorem q_Re_countPart (d : Nat) (hd : 3 ≤ d)  (s : c_S) : k_ok (c_M d 207 [v_r 27] s) (fun σ r => k_F [27] [(1, 1), (27, 5), (27, 10), (27, 11)] s σ ∧ k_b 2 r) := by
  obtain ⟨d, rfl⟩ : ∃ e, d = e + 1 := ⟨d - 1, by omega⟩
  rw [m_Re_countPart, e_Re_countPart_0]
  refine k_if (fun h1 => ?_) (fun h1 => ?_)
  ·
    refine k_bd (q_Re_refuse d (by omega) _ _) (fun s_2 x_2 g_2 => ?_)
    have f_2 : k_F [27] [(1, 1), (27, 5), (27, 10), (27, 11)] s s_2 := k_F.tr (k_F.puf k_F.rf rfl) (k_F.mono g_2.1 rfl)
    refine k_if (fun h3 => ?_) (fun h3 => ?_)
    ·
      exact k_some ⟨f_2, (k_b2 (by decide))⟩
    ·
      exact k_some ⟨f_2, (k_b2 (by decide))⟩
  ·
    refine k_if (fun h4 => ?_) (fun h4 => ?_)
    ·
      exact k_some ⟨(k_F.puf k_F.rf rfl), (k_b2 (by decide))⟩
    ·
      exact k_some ⟨(k_F.puf k_F.rf rfl), (k_b2 (by decide))⟩
theorem q_Ta_sameSigns_3 (d : Nat) (hd : 2 ≤ d + 1) : ∀ (n : Nat) (i1 : Int32) (i2 : Int32) (i3 : Int32) (i4 : Int32) (s : c_S), k_m i4 < n → k_ok (b_Ta_sameSigns_3 (c_M d) i1 i2 i3 i4 s) (fun σ r => σ = s ∧ k_b 2 r)
  | 0, i1, i2, i3, i4, s, hn => absurd hn (Nat.not_lt_zero _)
  | n + 1, i1, i2, i3, i4, s, hn => by
    rw [e_Ta_sameSigns_3]
    refine k_if (fun h1 => ?_) (fun h1 => ?_)
    ·
      refine k_bd (q_Ta_signAt d (by omega) _ _) (fun s_2 x_2 g_2 => ?_)
      obtain ⟨e_2, b_2⟩ := g_2
      have e_2 := e_2.symm
      subst e_2
      refine k_bd (q_Ta_signAt d (by omega) _ _) (fun s_3 x_3 g_3 => ?_)
      obtain ⟨e_3, b_3⟩ := g_3
      have e_3 := e_3.symm
      subst e_3
      refine k_if (fun h4 => ?_) (fun h4 => ?_)
      ·
        exact q_Ta_sameSigns_3 d hd n _ _ _ _ _ (k_up h1 hn)
      ·
        exact k_some ⟨rfl, (k_b2 (by decide))⟩
    ·
      exact k_some ⟨rfl, (k_b2 (by decide))⟩
theorem q_Ta_sameSigns (d : Nat) (hd : 2 ≤ d) (i1 : Int32) (i2 : Int32) (i3 : Int32) (s : c_S) : k_ok (c_M d 223 [v_r 1, v_i i1, v_i i2, v_i i3] s) (fun σ r => σ = s ∧ k_b 2 r) := by
  obtain ⟨d, rfl⟩ : ∃ e, d = e + 1 := ⟨d - 1, by omega⟩
  rw [m_Ta_sameSigns, e_Ta_sameSigns_0]
  exact q_Ta_sameSigns_3 d hd _ _ _ _ _ _ (Nat.lt_succ_self _)
theorem q_Re_startsPart (d : Nat) (hd : 2 ≤ d)  (s : c_S) : k_ok (c_M d 206 [v_r 27] s) (fun σ r => σ = s ∧ k_b 2 r) := by
  obtain ⟨d, rfl⟩ : ∃ e, d = e + 1 := ⟨d - 1, by omega⟩
  rw [m_Re_startsPart, e_Re_startsPart_0]
  refine k_bd (q_Ta_token d (by omega)  _) (fun s_1 x_1 g_1 => ?_)
  obtain ⟨e_1, b_1⟩ := g_1
  have e_1 := e_1.symm
  subst e_1
  refine k_if (fun h2 => ?_) (fun h2 => ?_)
  ·
    exact k_some ⟨rfl, (k_b2 (by decide))⟩
  ·
    refine k_if (fun h3 => ?_) (fun h3 => ?_)
    ·
      exact k_some ⟨rfl, (k_b2 (by decide))⟩
    ·
      refine k_if (fun h4 => ?_) (fun h4 => ?_)
      ·
        exact k_some ⟨rfl, (k_b2 (by decide))⟩
      ·
        exact k_some ⟨rfl, (k_b2 (by decide))⟩
theorem q_Re_enterScope (d : Nat) (hd : 1 ≤ d) (i1 : Int32) (i2 : Int32) (s : c_S) : k_ok (c_M d 210 [v_r 27, v_i i1, v_i i2] s) (fun σ r => k_F [27, 28, 29] [(1, 1), (27, 10), (27, 11)] s σ ∧ k_b 0 r) := by
  obtain ⟨d, rfl⟩ : ∃ e, d = e + 1 := ⟨d - 1, by omega⟩
  rw [m_Re_enterScope, e_Re_enterScope_0]
  refine k_if (fun h1 => ?_) (fun h1 => ?_)
  ·
    exact k_some ⟨(k_F.puf k_F.rf rfl), k_b0⟩
  ·
    refine k_if (fun h2 => ?_) (fun h2 => ?_)
    ·
      refine k_rg (k_in h1 h2 (by decide)) ?_
      refine k_rg (k_in h1 h2 (by decide)) ?_
      exact k_some ⟨(k_F.puf (k_F.put (k_F.put k_F.rf rfl) rfl) rfl), k_b0⟩
    ·
      exact k_some ⟨(k_F.puf k_F.rf rfl), k_b0⟩
theorem q_Re_leaveScope (d : Nat) (hd : 1 ≤ d)  (s : c_S) : k_ok (c_M d 211 [v_r 27] s) (fun σ r => k_F [27] [(1, 1), (27, 10), (27, 11)] s σ ∧ k_b 0 r) := by
  obtain ⟨d, rfl⟩ : ∃ e, d = e + 1 := ⟨d - 1, by omega⟩
  rw [m_Re_leaveScope, e_Re_leaveScope_0]
  exact k_some ⟨(k_F.puf k_F.rf rfl), k_b0⟩
theorem q_Re_nameLength (d : Nat) (hd : 1 ≤ d)  (s : c_S) : k_ok (c_M d 192 [v_r 27] s) (fun σ r => σ = s ∧ k_b 1 r) := by
  obtain ⟨d, rfl⟩ : ∃ e, d = e + 1 := ⟨d - 1, by omega⟩
  rw [m_Re_nameLength, e_Re_nameLength_0]
  exact k_some ⟨rfl, k_b1⟩
theorem q_Re_namePlace (d : Nat) (hd : 1 ≤ d)  (s : c_S) : k_ok (c_M d 191 [v_r 27] s) (fun σ r => σ = s ∧ k_b 1 r) := by
  obtain ⟨d, rfl⟩ : ∃ e, d = e + 1 := ⟨d - 1, by omega⟩
  rw [m_Re_namePlace, e_Re_namePlace_0]
  exact k_some ⟨rfl, k_b1⟩
theorem q_Re_typeRoot (d : Nat) (hd : 1 ≤ d)  (s : c_S) : k_ok (c_M d 193 [v_r 27] s) (fun σ r => σ = s ∧ k_b 1 r) := by
  obtain ⟨d, rfl⟩ : ∃ e, d = e + 1 := ⟨d - 1, by omega⟩
  rw [m_Re_typeRoot, e_Re_typeRoot_0]
  exact k_some ⟨rfl, k_b1⟩
theorem q_Ta_atEnd (d : Nat) (hd : 1 ≤ d)  (s : c_S) : k_ok (c_M d 219 [v_r 1] s) (fun σ r => σ = s ∧ k_b 2 r) := by
  obtain ⟨d, rfl⟩ : ∃ e, d = e + 1 := ⟨d - 1, by omega⟩
  rw [m_Ta_atEnd, e_Ta_atEnd_0]
  refine k_if (fun h1 => ?_) (fun h1 => ?_)
  ·
    exact k_some ⟨rfl, (k_b2 (by decide))⟩
  ·
    exact k_some ⟨rfl, (k_b2 (by decide))⟩
theorem q_Fb_troubleAtEnd (d : Nat) (hd : 2 ≤ d)  (s : c_S) : k_ok (c_M d 14 [v_r 0] s) (fun σ r => σ = s ∧ k_b 1 r) := by
  obtain ⟨d, rfl⟩ : ∃ e, d = e + 1 := ⟨d - 1, by omega⟩
  rw [m_Fb_troubleAtEnd, e_Fb_troubleAtEnd_0]
  refine k_bd (q_Me_trouble d (by omega)  _) (fun s_1 x_1 g_1 => ?_)
  obtain ⟨e_1, b_1⟩ := g_1
  have e_1 := e_1.symm
  subst e_1
  refine k_if (fun h2 => ?_) (fun h2 => ?_)
  ·
    exact k_some ⟨rfl, k_b1⟩
  ·
    refine k_bd (q_Me_trouble d (by omega)  _) (fun s_3 x_3 g_3 => ?_)
    obtain ⟨e_3, b_3⟩ := g_3
    have e_3 := e_3.symm
    subst e_3
    refine k_bd (q_Ta_length d (by omega)  _) (fun s_4 x_4 g_4 => ?_)
    obtain ⟨e_4, b_4⟩ := g_4
    have e_4 := e_4.symm
    subst e_4
    refine k_bd (q_Fb_faultAt d (by omega) _ _ _) (fun s_5 x_5 g_5 => ?_)
    obtain ⟨e_5, b_5⟩ := g_5
    have e_5 := e_5.symm
    subst e_5
    exact k_some ⟨rfl, k_b1⟩
theorem q_Re_fault (d : Nat) (hd : 1 ≤ d)  (s : c_S) : k_ok (c_M d 190 [v_r 27] s) (fun σ r => σ = s ∧ k_b 1 r) := by
  obtain ⟨d, rfl⟩ : ∃ e, d = e + 1 := ⟨d - 1, by omega⟩
  rw [m_Re_fault, e_Re_fault_0]
  exact k_some ⟨rfl, k_b1⟩
theorem q_Co_isXsAndNumber_16 (d : Nat) (hd : 2 ≤ d + 1) : ∀ (n : Nat) (i1 : Int32) (i2 : Int32) (i3 : Int32) (i4 : Int32) (s : c_S), k_m i4 < n → k_ok (b_Co_isXsAndNumber_16 (c_M d) i1 i2 i3 i4 s) (fun σ r => σ = s ∧ k_b 2 r)
  | 0, i1, i2, i3, i4, s, hn => absurd hn (Nat.not_lt_zero _)
  | n + 1, i1, i2, i3, i4, s, hn => by
    rw [e_Co_isXsAndNumber_16]
    refine k_if (fun h1 => ?_) (fun h1 => ?_)
    ·
      refine k_if (fun h2 => ?_) (fun h2 => ?_)
      ·
        refine k_bd (q_Co_nameSign d (by omega) _ _ _) (fun s_3 x_3 g_3 => ?_)
        obtain ⟨e_3, b_3⟩ := g_3
        have e_3 := e_3.symm
        subst e_3
        refine k_if (fun h4 => ?_) (fun h4 => ?_)
        ·
          exact q_Co_isXsAndNumber_16 d hd n _ _ _ _ _ (k_up h2 hn)
        ·
          exact k_some ⟨rfl, (k_b2 (by decide))⟩
      ·
        refine k_bd (q_Co_nameSign d (by omega) _ _ _) (fun s_5 x_5 g_5 => ?_)
        obtain ⟨e_5, b_5⟩ := g_5
        have e_5 := e_5.symm
        subst e_5
        refine k_bd (q_Fb_isDigit d (by omega) _ _) (fun s_6 x_6 g_6 => ?_)
        obtain ⟨e_6, b_6⟩ := g_6
        have e_6 := e_6.symm
        subst e_6
        refine k_if (fun h7 => ?_) (fun h7 => ?_)
        ·
          exact k_some ⟨rfl, (k_b2 (by decide))⟩
        ·
          exact q_Co_isXsAndNumber_16 d hd n _ _ _ _ _ (k_up h1 hn)
    ·
      refine k_if (fun h8 => ?_) (fun h8 => ?_)
      ·
        exact k_some ⟨rfl, (k_b2 (by decide))⟩
      ·
        refine k_bd (q_Co_nameSign d (by omega) _ _ _) (fun s_9 x_9 g_9 => ?_)
        obtain ⟨e_9, b_9⟩ := g_9
        have e_9 := e_9.symm
        subst e_9
        refine k_if (fun h10 => ?_) (fun h10 => ?_)
        ·
          exact k_some ⟨rfl, (k_b2 (by decide))⟩
        ·
          exact k_some ⟨rfl, (k_b2 (by decide))⟩
theorem q_Co_isXsAndNumber (d : Nat) (hd : 2 ≤ d) (i1 : Int32) (i2 : Int32) (s : c_S) : k_ok (c_M d 145 [v_r 11, v_i i1, v_i i2] s) (fun σ r => σ = s ∧ k_b 2 r) := by
  obtain ⟨d, rfl⟩ : ∃ e, d = e + 1 := ⟨d - 1, by omega⟩
  rw [m_Co_isXsAndNumber, e_Co_isXsAndNumber_0]
  refine k_bd (q_Co_nameLength d (by omega) _ _) (fun s_1 x_1 g_1 => ?_)
  obtain ⟨e_1, b_1⟩ := g_1
  have e_1 := e_1.symm
  subst e_1
  refine k_if (fun h2 => ?_) (fun h2 => ?_)
  ·
    exact q_Co_isXsAndNumber_16 d hd _ _ _ _ _ _ (Nat.lt_succ_self _)
  ·
    exact k_some ⟨rfl, (k_b2 (by decide))⟩
theorem q_Co_anyIsXsAndNumber_2 (d : Nat) (hd : 3 ≤ d + 1) : ∀ (n : Nat) (i1 : Int32) (i2 : Int32) (s : c_S), k_m i2 < n → k_ok (b_Co_anyIsXsAndNumber_2 (c_M d) i1 i2 s) (fun σ r => σ = s ∧ k_b 2 r)
  | 0, i1, i2, s, hn => absurd hn (Nat.not_lt_zero _)
  | n + 1, i1, i2, s, hn => by
    rw [e_Co_anyIsXsAndNumber_2]
    refine k_if (fun h1 => ?_) (fun h1 => ?_)
    ·
      refine k_bd (q_Co_isXsAndNumber d (by omega) _ _ _) (fun s_2 x_2 g_2 => ?_)
      obtain ⟨e_2, b_2⟩ := g_2
      have e_2 := e_2.symm
      subst e_2
      refine k_if (fun h3 => ?_) (fun h3 => ?_)
      ·
        exact q_Co_anyIsXsAndNumber_2 d hd n _ _ _ (k_up h1 hn)
      ·
        exact k_some ⟨rfl, (k_b2 (by decide))⟩
    ·
      exact k_some ⟨rfl, (k_b2 (by decide))⟩
theorem q_Co_anyIsXsAndNumber (d : Nat) (hd : 3 ≤ d) (i1 : Int32) (s : c_S) : k_ok (c_M d 144 [v_r 11, v_i i1] s) (fun σ r => σ = s ∧ k_b 2 r) := by
  obtain ⟨d, rfl⟩ : ∃ e, d = e + 1 := ⟨d - 1, by omega⟩
  rw [m_Co_anyIsXsAndNumber, e_Co_anyIsXsAndNumber_0]
  exact q_Co_anyIsXsAndNumber_2 d hd _ _ _ _ (Nat.lt_succ_self _)
theorem q_Co_fewestXs_2 (d : Nat) (hd : 4 ≤ d + 1) : ∀ (n : Nat) (i1 : Int32) (s : c_S), k_m i1 < n → k_ok (b_Co_fewestXs_2 (c_M d) i1 s) (fun σ r => σ = s ∧ k_b 1 r)
  | 0, i1, s, hn => absurd hn (Nat.not_lt_zero _)
  | n + 1, i1, s, hn => by
    rw [e_Co_fewestXs_2]
    refine k_if (fun h1 => ?_) (fun h1 => ?_)
    ·
      exact k_some ⟨rfl, k_b1⟩
    ·
      refine k_bd (q_Co_anyIsXsAndNumber d (by omega) _ _) (fun s_2 x_2 g_2 => ?_)
      obtain ⟨e_2, b_2⟩ := g_2
      have e_2 := e_2.symm
      subst e_2
      refine k_if (fun h3 => ?_) (fun h3 => ?_)
      ·
        exact k_some ⟨rfl, k_b1⟩
      ·
        exact q_Co_fewestXs_2 d hd n _ _ (k_upn h1 (by decide) hn)
theorem q_Co_fewestXs (d : Nat) (hd : 4 ≤ d)  (s : c_S) : k_ok (c_M d 143 [v_r 11] s) (fun σ r => σ = s ∧ k_b 1 r) := by
  obtain ⟨d, rfl⟩ : ∃ e, d = e + 1 := ⟨d - 1, by omega⟩
  rw [m_Co_fewestXs, e_Co_fewestXs_0]
  exact q_Co_fewestXs_2 d hd _ _ _ (Nat.lt_succ_self _)
theorem q_Pa_beginDraft (d : Nat) (hd : 1 ≤ d)  (s : c_S) : k_ok (c_M d 186 [v_r 24] s) (fun σ r => k_F [24] [(1, 1), (27, 5), (27, 10), (27, 11)] s σ ∧ k_b 0 r) := by
  obtain ⟨d, rfl⟩ : ∃ e, d = e + 1 := ⟨d - 1, by omega⟩
  rw [m_Pa_beginDraft, e_Pa_beginDraft_0]
  exact k_some ⟨(k_F.puf k_F.rf rfl), k_b0⟩
theorem q_Ma_headTypeScope (d : Nat) (hd : 2 ≤ d)  (s : c_S) : k_ok (c_M d 156 [v_r 30] s) (fun σ r => σ = s ∧ k_b 1 r) := by
  obtain ⟨d, rfl⟩ : ∃ e, d = e + 1 := ⟨d - 1, by omega⟩
  rw [m_Ma_headTypeScope, e_Ma_headTypeScope_0]
  refine k_if (fun h1 => ?_) (fun h1 => ?_)
  ·
    refine k_bd (q_Ce_scope d (by omega) _ _) (fun s_2 x_2 g_2 => ?_)
    obtain ⟨e_2, b_2⟩ := g_2
    have e_2 := e_2.symm
    subst e_2
    exact k_some ⟨rfl, k_b1⟩
  ·
    exact k_some ⟨rfl, k_b1⟩
theorem q_Ce_numberOf (d : Nat) (hd : 2 ≤ d) (i1 : Int32) (s : c_S) : k_ok (c_M d 112 [v_r 19, v_i i1] s) (fun σ r => σ = s ∧ k_b 1 r) := by
  obtain ⟨d, rfl⟩ : ∃ e, d = e + 1 := ⟨d - 1, by omega⟩
  rw [m_Ce_numberOf, e_Ce_numberOf_0]
  refine k_bd (q_Ce_next d (by omega) _ _) (fun s_1 x_1 g_1 => ?_)
  obtain ⟨e_1, b_1⟩ := g_1
  have e_1 := e_1.symm
  subst e_1
  exact k_some ⟨rfl, k_b1⟩
theorem q_Co_number (d : Nat) (hd : 1 ≤ d)  (s : c_S) : k_ok (c_M d 130 [v_r 11] s) (fun σ r => σ = s ∧ k_b 1 r) := by
  obtain ⟨d, rfl⟩ : ∃ e, d = e + 1 := ⟨d - 1, by omega⟩
  rw [m_Co_number, e_Co_number_0]
  exact k_some ⟨rfl, k_b1⟩
theorem q_Co_wanted_8 (d : Nat) (hd : 2 ≤ d + 1) : ∀ (n : Nat) (i2 : Int32) (i3 : Int32) (s : c_S), k_m i3 < n → k_ok (b_Co_wanted_8 (c_M d) i2 i3 s) (fun σ r => σ = s ∧ k_b 1 r)
  | 0, i2, i3, s, hn => absurd hn (Nat.not_lt_zero _)
  | n + 1, i2, i3, s, hn => by
    rw [e_Co_wanted_8]
    refine k_if (fun h1 => ?_) (fun h1 => ?_)
    ·
      refine k_bd (q_No_kind d (by omega) _ _) (fun s_2 x_2 g_2 => ?_)
      obtain ⟨e_2, b_2⟩ := g_2
      have e_2 := e_2.symm
      subst e_2
      refine k_if (fun h3 => ?_) (fun h3 => ?_)
      ·
        refine k_bd (q_No_right d (by omega) _ _) (fun s_4 x_4 g_4 => ?_)
        obtain ⟨e_4, b_4⟩ := g_4
        have e_4 := e_4.symm
        subst e_4
        exact q_Co_wanted_8 d hd n _ _ _ (k_up h1 hn)
      ·
        exact k_some ⟨rfl, k_b1⟩
    ·
      exact k_some ⟨rfl, k_b1⟩
theorem q_Co_wanted (d : Nat) (hd : 2 ≤ d) (i1 : Int32) (s : c_S) : k_ok (c_M d 135 [v_r 11, v_i i1] s) (fun σ r => σ = s ∧ k_b 1 r) := by
  obtain ⟨d, rfl⟩ : ∃ e, d = e + 1 := ⟨d - 1, by omega⟩
  rw [m_Co_wanted, e_Co_wanted_0]
  refine k_bd (q_Co_typeRoot d (by omega) _ _) (fun s_1 x_1 g_1 => ?_)
  obtain ⟨e_1, b_1⟩ := g_1
  have e_1 := e_1.symm
  subst e_1
  exact q_Co_wanted_8 d hd _ _ _ _ (Nat.lt_succ_self _)
theorem q_Fb_constant (d : Nat) (hd : 3 ≤ d) (i1 : Int32) (i2 : Int32) (s : c_S) : k_ok (c_M d 6 [v_r 0, v_i i1, v_i i2] s) (fun σ r => σ = s ∧ k_b 1 r) := by
  obtain ⟨d, rfl⟩ : ∃ e, d = e + 1 := ⟨d - 1, by omega⟩
  rw [m_Fb_constant, e_Fb_constant_0]
  refine k_if (fun h1 => ?_) (fun h1 => ?_)
  ·
    exact k_some ⟨rfl, k_b1⟩
  ·
    refine k_bd (q_Co_number d (by omega)  _) (fun s_2 x_2 g_2 => ?_)
    obtain ⟨e_2, b_2⟩ := g_2
    have e_2 := e_2.symm
    subst e_2
    refine k_if (fun h3 => ?_) (fun h3 => ?_)
    ·
      refine k_if (fun h4 => ?_) (fun h4 => ?_)
      ·
        refine k_bd (q_Co_sort d (by omega) _ _) (fun s_5 x_5 g_5 => ?_)
        obtain ⟨e_5, b_5⟩ := g_5
        have e_5 := e_5.symm
        subst e_5
        exact k_some ⟨rfl, k_b1⟩
      ·
        refine k_if (fun h6 => ?_) (fun h6 => ?_)
        ·
          refine k_bd (q_Co_wanted d (by omega) _ _) (fun s_7 x_7 g_7 => ?_)
          obtain ⟨e_7, b_7⟩ := g_7
          have e_7 := e_7.symm
          subst e_7
          exact k_some ⟨rfl, k_b1⟩
        ·
          exact k_some ⟨rfl, k_b1⟩
    ·
      exact k_some ⟨rfl, k_b1⟩
theorem q_Pa_length (d : Nat) (hd : 1 ≤ d)  (s : c_S) : k_ok (c_M d 184 [v_r 24] s) (fun σ r => σ = s ∧ k_b 1 r) := by
  obtain ⟨d, rfl⟩ : ∃ e, d = e + 1 := ⟨d - 1, by omega⟩
  rw [m_Pa_length, e_Pa_length_0]
  exact k_some ⟨rfl, k_b1⟩
theorem q_Fb_size (d : Nat) (hd : 2 ≤ d)  (s : c_S) : k_ok (c_M d 7 [v_r 0] s) (fun σ r => σ = s ∧ k_b 1 r) := by
  obtain ⟨d, rfl⟩ : ∃ e, d = e + 1 := ⟨d - 1, by omega⟩
  rw [m_Fb_size, e_Fb_size_0]
  refine k_bd (q_Pa_length d (by omega)  _) (fun s_1 x_1 g_1 => ?_)
  obtain ⟨e_1, b_1⟩ := g_1
  have e_1 := e_1.symm
  subst e_1
  exact k_some ⟨rfl, k_b1⟩
theorem q_Pa_signAt (d : Nat) (hd : 1 ≤ d) (i1 : Int32) (s : c_S) : k_ok (c_M d 185 [v_r 24, v_i i1] s) (fun σ r => σ = s ∧ k_b 1 r) := by
  obtain ⟨d, rfl⟩ : ∃ e, d = e + 1 := ⟨d - 1, by omega⟩
  rw [m_Pa_signAt, e_Pa_signAt_0]
  refine k_if (fun h1 => ?_) (fun h1 => ?_)
  ·
    exact k_some ⟨rfl, k_b1⟩
  ·
    refine k_if (fun h2 => ?_) (fun h2 => ?_)
    ·
      refine k_if (fun h3 => ?_) (fun h3 => ?_)
      ·
        refine k_rg (k_in h1 h3 (by decide)) ?_
        exact k_some ⟨rfl, k_b1⟩
      ·
        exact k_some ⟨rfl, k_b1⟩
    ·
      exact k_some ⟨rfl, k_b1⟩
theorem q_Fb_out (d : Nat) (hd : 2 ≤ d) (i1 : Int32) (s : c_S) : k_ok (c_M d 8 [v_r 0, v_i i1] s) (fun σ r => σ = s ∧ k_b 1 r) := by
  obtain ⟨d, rfl⟩ : ∃ e, d = e + 1 := ⟨d - 1, by omega⟩
  rw [m_Fb_out, e_Fb_out_0]
  refine k_bd (q_Pa_signAt d (by omega) _ _) (fun s_1 x_1 g_1 => ?_)
  obtain ⟨e_1, b_1⟩ := g_1
  have e_1 := e_1.symm
  subst e_1
  exact k_some ⟨rfl, k_b1⟩
theorem q_Co_drop (d : Nat) (hd : 2 ≤ d) (i1 : Int32) (s : c_S) : k_ok (c_M d 140 [v_r 11, v_i i1] s) (fun σ r => k_F [3, 11] [(1, 1), (27, 5), (27, 10), (27, 11)] s σ ∧ k_b 0 r) := by
  obtain ⟨d, rfl⟩ : ∃ e, d = e + 1 := ⟨d - 1, by omega⟩
  rw [m_Co_drop, e_Co_drop_0]
  refine k_if (fun h1 => ?_) (fun h1 => ?_)
  ·
    refine k_if (fun h2 => ?_) (fun h2 => ?_)
    ·
      exact k_some ⟨k_F.rf, k_b0⟩
    ·
      refine k_if (fun h3 => ?_) (fun h3 => ?_)
      ·
        refine k_rg (k_in h2 h3 (by decide)) ?_
        refine k_bd (q_No_release d (by omega) _ _) (fun s_4 x_4 g_4 => ?_)
        have f_4 : k_F [3, 11] [(1, 1), (27, 5), (27, 10), (27, 11)] s s_4 := k_F.tr (k_F.puf k_F.rf rfl) (k_F.mono g_4.1 rfl)
        exact k_some ⟨f_4, k_b0⟩
      ·
        exact k_some ⟨k_F.rf, k_b0⟩
  ·
    exact k_some ⟨k_F.rf, k_b0⟩
theorem q_Fb_forget (d : Nat) (hd : 3 ≤ d) (i1 : Int32) (s : c_S) : k_ok (c_M d 9 [v_r 0, v_i i1] s) (fun σ r => k_F [3, 11] [(1, 1), (27, 5), (27, 10), (27, 11)] s σ ∧ k_b 1 r) := by
  obtain ⟨d, rfl⟩ : ∃ e, d = e + 1 := ⟨d - 1, by omega⟩
  rw [m_Fb_forget, e_Fb_forget_0]
  refine k_if (fun h1 => ?_) (fun h1 => ?_)
  ·
    exact k_some ⟨k_F.rf, k_b1⟩
  ·
    refine k_bd (q_Co_number d (by omega)  _) (fun s_2 x_2 g_2 => ?_)
    obtain ⟨e_2, b_2⟩ := g_2
    have e_2 := e_2.symm
    subst e_2
    refine k_if (fun h3 => ?_) (fun h3 => ?_)
    ·
      exact k_some ⟨k_F.rf, k_b1⟩
    ·
      refine k_bd (q_Co_drop d (by omega) _ _) (fun s_4 x_4 g_4 => ?_)
      have f_4 : k_F [3, 11] [(1, 1), (27, 5), (27, 10), (27, 11)] s s_4 := k_F.tr k_F.rf (k_F.mono g_4.1 rfl)
      refine k_bd (q_Co_number d (by omega)  _) (fun s_5 x_5 g_5 => ?_)
      obtain ⟨e_5, b_5⟩ := g_5
      have e_5 := e_5.symm
      subst e_5
      exact k_some ⟨f_4, k_b1⟩
theorem q_Me_stepsInAll (d : Nat) (hd : 1 ≤ d)  (s : c_S) : k_ok (c_M d 162 [v_r 18] s) (fun σ r => σ = s ∧ k_b 1 r) := by
  obtain ⟨d, rfl⟩ : ∃ e, d = e + 1 := ⟨d - 1, by omega⟩
  rw [m_Me_stepsInAll, e_Me_stepsInAll_0]
  exact k_some ⟨rfl, k_b1⟩
theorem q_Me_stepsOfLatest (d : Nat) (hd : 1 ≤ d)  (s : c_S) : k_ok (c_M d 163 [v_r 18] s) (fun σ r => σ = s ∧ k_b 1 r) := by
  obtain ⟨d, rfl⟩ : ∃ e, d = e + 1 := ⟨d - 1, by omega⟩
  rw [m_Me_stepsOfLatest, e_Me_stepsOfLatest_0]
  exact k_some ⟨rfl, k_b1⟩
theorem q_Fb_count (d : Nat) (hd : 2 ≤ d) (i1 : Int32) (s : c_S) : k_ok (c_M d 10 [v_r 0, v_i i1] s) (fun σ r => σ = s ∧ k_b 1 r) := by
  obtain ⟨d, rfl⟩ : ∃ e, d = e + 1 := ⟨d - 1, by omega⟩
  rw [m_Fb_count, e_Fb_count_0]
  refine k_if (fun h1 => ?_) (fun h1 => ?_)
  ·
    refine k_bd (q_Co_number d (by omega)  _) (fun s_2 x_2 g_2 => ?_)
    obtain ⟨e_2, b_2⟩ := g_2
    have e_2 := e_2.symm
    subst e_2
    exact k_some ⟨rfl, k_b1⟩
  ·
    refine k_if (fun h3 => ?_) (fun h3 => ?_)
    ·
      refine k_bd (q_Me_stepsInAll d (by omega)  _) (fun s_4 x_4 g_4 => ?_)
      obtain ⟨e_4, b_4⟩ := g_4
      have e_4 := e_4.symm
      subst e_4
      exact k_some ⟨rfl, k_b1⟩
    ·
      refine k_if (fun h5 => ?_) (fun h5 => ?_)
      ·
        refine k_bd (q_Me_stepsOfLatest d (by omega)  _) (fun s_6 x_6 g_6 => ?_)
        obtain ⟨e_6, b_6⟩ := g_6
        have e_6 := e_6.symm
        subst e_6
        exact k_some ⟨rfl, k_b1⟩
      ·
        refine k_if (fun h7 => ?_) (fun h7 => ?_)
        ·
          refine k_bd (q_Ta_length d (by omega)  _) (fun s_8 x_8 g_8 => ?_)
          obtain ⟨e_8, b_8⟩ := g_8
          have e_8 := e_8.symm
          subst e_8
          exact k_some ⟨rfl, k_b1⟩
        ·
          exact k_some ⟨rfl, k_b1⟩
