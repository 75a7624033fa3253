theorem q_Wr_family_16 (d : Nat) (hd : 5 ≤ d) (D : Int32) (hB : ∀ (a b E c : Int32) (t : c_S), k_lt D E → k_ok (c_M d 228 [v_r 33, v_i a, v_i b, v_i E, v_i c] t) (fun σ r => k_F [18, 19, 20, 21, 22, 23, 24, 26, 30] [(1, 1), (27, 5), (27, 10), (27, 11)] t σ ∧ k_b 0 r)) (hO : ∀ (a b c E e : Int32) (t : c_S), k_lt D E → k_ok (c_M d 231 [v_r 33, v_i a, v_i b, v_i c, v_i E, v_i e] t) (fun σ r => k_F [18, 19, 20, 21, 22, 23, 24, 26, 30] [(1, 1), (27, 5), (27, 10), (27, 11)] t σ ∧ k_b 0 r)) : ∀ (n : Nat) (i5 : Int32) (i6 : Int32) (i7 : Int32) (i8 : Int32) (i9 : Int32) (s : c_S), k_J D i7 i9 → k_m i9 < n → k_ok (b_Wr_family_16 (c_M d) i5 i6 i7 i8 i9 s) (fun σ r => k_F [18, 19, 20, 21, 22, 23, 24, 26, 30] [(1, 1), (27, 5), (27, 10), (27, 11)] s σ ∧ k_b 0 r)
  | 0, i5, i6, i7, i8, i9, s, hJ, hn => absurd hn (Nat.not_lt_zero _)
  | n + 1, i5, i6, i7, i8, i9, s, hJ, hn => by
    rw [e_Wr_family_16]
    refine k_if (fun h1 => ?_) (fun h1 => ?_)
    ·
      rw [e_Wr_family_175]
      refine k_bd (q_No_left d (by omega) _ _) (fun s_2 x_2 g_2 => ?_)
      obtain ⟨e_2, b_2⟩ := g_2
      have e_2 := e_2.symm
      subst e_2
      refine k_bd (q_Wr_putName d (by omega) _ _) (fun s_3 x_3 g_3 => ?_)
      have f_3 : k_F [18, 19, 20, 21, 22, 23, 24, 26, 30] [(1, 1), (27, 5), (27, 10), (27, 11)] s s_3 := k_F.tr k_F.rf (k_F.mono g_3.1 rfl)
      refine k_bd (q_Co_typeRoot d (by omega) _ _) (fun s_4 x_4 g_4 => ?_)
      obtain ⟨e_4, b_4⟩ := g_4
      have e_4 := e_4.symm
      subst e_4
      refine k_bd (q_Ma_push d (by omega) _ _ _ _) (fun s_5 x_5 g_5 => ?_)
      have f_5 : k_F [18, 19, 20, 21, 22, 23, 24, 26, 30] [(1, 1), (27, 5), (27, 10), (27, 11)] s s_5 := k_F.tr f_3 (k_F.mono g_5.1 rfl)
      refine k_bd (hO _ _ _ _ _ _ (k_Jto (k_Jle2 hJ h1))) (fun s_6 x_6 g_6 => ?_)
      have f_6 : k_F [18, 19, 20, 21, 22, 23, 24, 26, 30] [(1, 1), (27, 5), (27, 10), (27, 11)] s s_6 := k_F.tr f_5 (k_F.mono g_6.1 rfl)
      exact k_some ⟨f_6, k_b0⟩
    ·
      refine k_bd (q2_Me_question d (by omega) _ _) (fun s_7 x_7 g_7 => ?_)
      have f_7 : k_F [18, 19, 20, 21, 22, 23, 24, 26, 30] [(1, 1), (27, 5), (27, 10), (27, 11)] s s_7 := k_F.tr k_F.rf (k_F.mono g_7.1 rfl)
      refine k_if (fun h8 => ?_) (fun h8 => ?_)
      ·
        exact k_some ⟨f_7, k_b0⟩
      ·
        refine k_bd (q_Ma_expose d (by omega) _ _ _) (fun s_9 x_9 g_9 => ?_)
        have f_9 : k_F [18, 19, 20, 21, 22, 23, 24, 26, 30] [(1, 1), (27, 5), (27, 10), (27, 11)] s s_9 := k_F.tr f_7 (k_F.mono g_9.1 rfl)
        refine k_bd (q_Ma_shape d (by omega)  _) (fun s_10 x_10 g_10 => ?_)
        obtain ⟨e_10, b_10⟩ := g_10
        have e_10 := e_10.symm
        subst e_10
        refine k_bd (q_Ma_shapeScope d (by omega)  _) (fun s_11 x_11 g_11 => ?_)
        obtain ⟨e_11, b_11⟩ := g_11
        have e_11 := e_11.symm
        subst e_11
        rw [e_Wr_family_65]
        refine k_bd (q_No_isArrow d (by omega) _ _) (fun s_12 x_12 g_12 => ?_)
        obtain ⟨e_12, b_12⟩ := g_12
        have e_12 := e_12.symm
        subst e_12
        refine k_if (fun h13 => ?_) (fun h13 => ?_)
        ·
          rw [e_Wr_family_175]
          refine k_bd (q_No_left d (by omega) _ _) (fun s_14 x_14 g_14 => ?_)
          obtain ⟨e_14, b_14⟩ := g_14
          have e_14 := e_14.symm
          subst e_14
          refine k_bd (q_Wr_putName d (by omega) _ _) (fun s_15 x_15 g_15 => ?_)
          have f_15 : k_F [18, 19, 20, 21, 22, 23, 24, 26, 30] [(1, 1), (27, 5), (27, 10), (27, 11)] s s_15 := k_F.tr f_9 (k_F.mono g_15.1 rfl)
          refine k_bd (q_Co_typeRoot d (by omega) _ _) (fun s_16 x_16 g_16 => ?_)
          obtain ⟨e_16, b_16⟩ := g_16
          have e_16 := e_16.symm
          subst e_16
          refine k_bd (q_Ma_push d (by omega) _ _ _ _) (fun s_17 x_17 g_17 => ?_)
          have f_17 : k_F [18, 19, 20, 21, 22, 23, 24, 26, 30] [(1, 1), (27, 5), (27, 10), (27, 11)] s s_17 := k_F.tr f_15 (k_F.mono g_17.1 rfl)
          refine k_bd (hO _ _ _ _ _ _ (k_Jto (k_Jle hJ (g_7.2.2 h8)))) (fun s_18 x_18 g_18 => ?_)
          have f_18 : k_F [18, 19, 20, 21, 22, 23, 24, 26, 30] [(1, 1), (27, 5), (27, 10), (27, 11)] s s_18 := k_F.tr f_17 (k_F.mono g_18.1 rfl)
          exact k_some ⟨f_18, k_b0⟩
        ·
          refine k_bd (q_Pa_put d (by omega) _ _) (fun s_19 x_19 g_19 => ?_)
          have f_19 : k_F [18, 19, 20, 21, 22, 23, 24, 26, 30] [(1, 1), (27, 5), (27, 10), (27, 11)] s s_19 := k_F.tr f_9 (k_F.mono g_19.1 rfl)
          refine k_bd (q_No_left d (by omega) _ _) (fun s_20 x_20 g_20 => ?_)
          obtain ⟨e_20, b_20⟩ := g_20
          have e_20 := e_20.symm
          subst e_20
          refine k_bd (hB _ _ _ _ _ (k_Jto (k_Jle hJ (g_7.2.2 h8)))) (fun s_21 x_21 g_21 => ?_)
          have f_21 : k_F [18, 19, 20, 21, 22, 23, 24, 26, 30] [(1, 1), (27, 5), (27, 10), (27, 11)] s s_21 := k_F.tr f_19 (k_F.mono g_21.1 rfl)
          refine k_bd (q_Pa_put d (by omega) _ _) (fun s_22 x_22 g_22 => ?_)
          have f_22 : k_F [18, 19, 20, 21, 22, 23, 24, 26, 30] [(1, 1), (27, 5), (27, 10), (27, 11)] s s_22 := k_F.tr f_21 (k_F.mono g_22.1 rfl)
          refine k_bd (q_No_left d (by omega) _ _) (fun s_23 x_23 g_23 => ?_)
          obtain ⟨e_23, b_23⟩ := g_23
          have e_23 := e_23.symm
          subst e_23
          refine k_bd (q_Ce_newVariable d (by omega) _ _ _ _) (fun s_24 x_24 g_24 => ?_)
          have f_24 : k_F [18, 19, 20, 21, 22, 23, 24, 26, 30] [(1, 1), (27, 5), (27, 10), (27, 11)] s s_24 := k_F.tr f_22 (k_F.mono g_24.1 rfl)
          refine k_bd (q_Ce_enter d (by omega) _ _ _ _) (fun s_25 x_25 g_25 => ?_)
          have f_25 : k_F [18, 19, 20, 21, 22, 23, 24, 26, 30] [(1, 1), (27, 5), (27, 10), (27, 11)] s s_25 := k_F.tr f_24 (k_F.mono g_25.1 rfl)
          rw [e_Wr_family_152]
          refine k_bd (q_No_right d (by omega) _ _) (fun s_26 x_26 g_26 => ?_)
          obtain ⟨e_26, b_26⟩ := g_26
          have e_26 := e_26.symm
          subst e_26
          exact k_mono (q_Wr_family_16 d hd D hB hO n _ _ _ _ _ _ (k_Jup hJ (g_7.2.2 h8)) (k_upn h1 (by decide) hn)) (fun σ r g => ⟨k_F.tr f_25 g.1, g.2⟩)
theorem q_Wr_object_20 (d : Nat) (hd : 5 ≤ d) (D : Int32) (hB : ∀ (a b E c : Int32) (t : c_S), k_lt D E → k_ok (c_M d 228 [v_r 33, v_i a, v_i b, v_i E, v_i c] t) (fun σ r => k_F [18, 19, 20, 21, 22, 23, 24, 26, 30] [(1, 1), (27, 5), (27, 10), (27, 11)] t σ ∧ k_b 0 r)) (hO : ∀ (a b c E e : Int32) (t : c_S), k_lt D E → k_ok (c_M d 231 [v_r 33, v_i a, v_i b, v_i c, v_i E, v_i e] t) (fun σ r => k_F [18, 19, 20, 21, 22, 23, 24, 26, 30] [(1, 1), (27, 5), (27, 10), (27, 11)] t σ ∧ k_b 0 r)) : ∀ (n : Nat) (i3 : Int32) (i5 : Int32) (i6 : Int32) (i7 : Int32) (i8 : Int32) (i9 : Int32) (i10 : Int32) (i11 : Int32) (i12 : Int32) (s : c_S), k_J D i9 i12 → k_m i12 < n → k_ok (b_Wr_object_20 (c_M d) i3 i5 i6 i7 i8 i9 i10 i11 i12 s) (fun σ r => k_F [18, 19, 20, 21, 22, 23, 24, 26, 30] [(1, 1), (27, 5), (27, 10), (27, 11)] s σ ∧ k_b 0 r)
  | 0, i3, i5, i6, i7, i8, i9, i10, i11, i12, s, hJ, hn => absurd hn (Nat.not_lt_zero _)
  | n + 1, i3, i5, i6, i7, i8, i9, i10, i11, i12, s, hJ, hn => by
    rw [e_Wr_object_20]
    refine k_if (fun h1 => ?_) (fun h1 => ?_)
    ·
      rw [e_Wr_object_215]
      refine k_bd (q_Ce_term d (by omega) _ _) (fun s_2 x_2 g_2 => ?_)
      obtain ⟨e_2, b_2⟩ := g_2
      have e_2 := e_2.symm
      subst e_2
      refine k_bd (q_Ce_scope d (by omega) _ _) (fun s_3 x_3 g_3 => ?_)
      obtain ⟨e_3, b_3⟩ := g_3
      have e_3 := e_3.symm
      subst e_3
      refine k_bd (q_Ma_headForm d (by omega) _ _ _ _) (fun s_4 x_4 g_4 => ?_)
      have f_4 : k_F [18, 19, 20, 21, 22, 23, 24, 26, 30] [(1, 1), (27, 5), (27, 10), (27, 11)] s s_4 := k_F.tr k_F.rf (k_F.mono g_4.1 rfl)
      refine k_if (fun h5 => ?_) (fun h5 => ?_)
      ·
        exact k_some ⟨f_4, k_b0⟩
      ·
        refine k_if (fun h6 => ?_) (fun h6 => ?_)
        ·
          rw [e_Wr_object_256]
          refine k_if (fun h7 => ?_) (fun h7 => ?_)
          ·
            rw [e_Wr_object_283]
            refine k_if (fun h8 => ?_) (fun h8 => ?_)
            ·
              rw [e_Wr_object_304]
              refine k_bd (q_Ma_head d (by omega)  _) (fun s_9 x_9 g_9 => ?_)
              obtain ⟨e_9, b_9⟩ := g_9
              have e_9 := e_9.symm
              subst e_9
              refine k_bd (q_Wr_putHead d (by omega) _ _) (fun s_10 x_10 g_10 => ?_)
              have f_10 : k_F [18, 19, 20, 21, 22, 23, 24, 26, 30] [(1, 1), (27, 5), (27, 10), (27, 11)] s s_10 := k_F.tr f_4 (k_F.mono g_10.1 rfl)
              refine k_bd (q_Ma_headType d (by omega)  _) (fun s_11 x_11 g_11 => ?_)
              obtain ⟨e_11, b_11⟩ := g_11
              have e_11 := e_11.symm
              subst e_11
              refine k_bd (q_Ma_headTypeScope d (by omega)  _) (fun s_12 x_12 g_12 => ?_)
              obtain ⟨e_12, b_12⟩ := g_12
              have e_12 := e_12.symm
              subst e_12
              refine k_bd (q_Ma_row d (by omega)  _) (fun s_13 x_13 g_13 => ?_)
              obtain ⟨e_13, b_13⟩ := g_13
              have e_13 := e_13.symm
              subst e_13
              refine k_bd (hO _ _ _ _ _ _ (k_Jto (k_Jle2 hJ h1))) (fun s_14 x_14 g_14 => ?_)
              have f_14 : k_F [18, 19, 20, 21, 22, 23, 24, 26, 30] [(1, 1), (27, 5), (27, 10), (27, 11)] s s_14 := k_F.tr f_10 (k_F.mono g_14.1 rfl)
              refine k_if (fun h15 => ?_) (fun h15 => ?_)
              ·
                exact k_some ⟨f_14, k_b0⟩
              ·
                refine k_bd (q_Pa_put d (by omega) _ _) (fun s_16 x_16 g_16 => ?_)
                have f_16 : k_F [18, 19, 20, 21, 22, 23, 24, 26, 30] [(1, 1), (27, 5), (27, 10), (27, 11)] s s_16 := k_F.tr f_14 (k_F.mono g_16.1 rfl)
                exact k_some ⟨f_16, k_b0⟩
            ·
              refine k_if (fun h17 => ?_) (fun h17 => ?_)
              ·
                refine k_bd (q_Pa_put d (by omega) _ _) (fun s_18 x_18 g_18 => ?_)
                have f_18 : k_F [18, 19, 20, 21, 22, 23, 24, 26, 30] [(1, 1), (27, 5), (27, 10), (27, 11)] s s_18 := k_F.tr f_4 (k_F.mono g_18.1 rfl)
                rw [e_Wr_object_304]
                refine k_bd (q_Ma_head d (by omega)  _) (fun s_19 x_19 g_19 => ?_)
                obtain ⟨e_19, b_19⟩ := g_19
                have e_19 := e_19.symm
                subst e_19
                refine k_bd (q_Wr_putHead d (by omega) _ _) (fun s_20 x_20 g_20 => ?_)
                have f_20 : k_F [18, 19, 20, 21, 22, 23, 24, 26, 30] [(1, 1), (27, 5), (27, 10), (27, 11)] s s_20 := k_F.tr f_18 (k_F.mono g_20.1 rfl)
                refine k_bd (q_Ma_headType d (by omega)  _) (fun s_21 x_21 g_21 => ?_)
                obtain ⟨e_21, b_21⟩ := g_21
                have e_21 := e_21.symm
                subst e_21
                refine k_bd (q_Ma_headTypeScope d (by omega)  _) (fun s_22 x_22 g_22 => ?_)
                obtain ⟨e_22, b_22⟩ := g_22
                have e_22 := e_22.symm
                subst e_22
                refine k_bd (q_Ma_row d (by omega)  _) (fun s_23 x_23 g_23 => ?_)
                obtain ⟨e_23, b_23⟩ := g_23
                have e_23 := e_23.symm
                subst e_23
                refine k_bd (hO _ _ _ _ _ _ (k_Jto (k_Jle2 hJ h1))) (fun s_24 x_24 g_24 => ?_)
                have f_24 : k_F [18, 19, 20, 21, 22, 23, 24, 26, 30] [(1, 1), (27, 5), (27, 10), (27, 11)] s s_24 := k_F.tr f_20 (k_F.mono g_24.1 rfl)
                refine k_if (fun h25 => ?_) (fun h25 => ?_)
                ·
                  exact k_some ⟨f_24, k_b0⟩
                ·
                  refine k_bd (q_Pa_put d (by omega) _ _) (fun s_26 x_26 g_26 => ?_)
                  have f_26 : k_F [18, 19, 20, 21, 22, 23, 24, 26, 30] [(1, 1), (27, 5), (27, 10), (27, 11)] s s_26 := k_F.tr f_24 (k_F.mono g_26.1 rfl)
                  exact k_some ⟨f_26, k_b0⟩
              ·
                rw [e_Wr_object_304]
                refine k_bd (q_Ma_head d (by omega)  _) (fun s_27 x_27 g_27 => ?_)
                obtain ⟨e_27, b_27⟩ := g_27
                have e_27 := e_27.symm
                subst e_27
                refine k_bd (q_Wr_putHead d (by omega) _ _) (fun s_28 x_28 g_28 => ?_)
                have f_28 : k_F [18, 19, 20, 21, 22, 23, 24, 26, 30] [(1, 1), (27, 5), (27, 10), (27, 11)] s s_28 := k_F.tr f_4 (k_F.mono g_28.1 rfl)
                refine k_bd (q_Ma_headType d (by omega)  _) (fun s_29 x_29 g_29 => ?_)
                obtain ⟨e_29, b_29⟩ := g_29
                have e_29 := e_29.symm
                subst e_29
                refine k_bd (q_Ma_headTypeScope d (by omega)  _) (fun s_30 x_30 g_30 => ?_)
                obtain ⟨e_30, b_30⟩ := g_30
                have e_30 := e_30.symm
                subst e_30
                refine k_bd (q_Ma_row d (by omega)  _) (fun s_31 x_31 g_31 => ?_)
                obtain ⟨e_31, b_31⟩ := g_31
                have e_31 := e_31.symm
                subst e_31
                refine k_bd (hO _ _ _ _ _ _ (k_Jto (k_Jle2 hJ h1))) (fun s_32 x_32 g_32 => ?_)
                have f_32 : k_F [18, 19, 20, 21, 22, 23, 24, 26, 30] [(1, 1), (27, 5), (27, 10), (27, 11)] s s_32 := k_F.tr f_28 (k_F.mono g_32.1 rfl)
                refine k_if (fun h33 => ?_) (fun h33 => ?_)
                ·
                  exact k_some ⟨f_32, k_b0⟩
                ·
                  refine k_bd (q_Pa_put d (by omega) _ _) (fun s_34 x_34 g_34 => ?_)
                  have f_34 : k_F [18, 19, 20, 21, 22, 23, 24, 26, 30] [(1, 1), (27, 5), (27, 10), (27, 11)] s s_34 := k_F.tr f_32 (k_F.mono g_34.1 rfl)
                  exact k_some ⟨f_34, k_b0⟩
          ·
            refine k_if (fun h35 => ?_) (fun h35 => ?_)
            ·
              refine k_bd (q_Ma_row d (by omega)  _) (fun s_36 x_36 g_36 => ?_)
              obtain ⟨e_36, b_36⟩ := g_36
              have e_36 := e_36.symm
              subst e_36
              refine k_if (fun h37 => ?_) (fun h37 => ?_)
              ·
                rw [e_Wr_object_283]
                refine k_if (fun h38 => ?_) (fun h38 => ?_)
                ·
                  rw [e_Wr_object_304]
                  refine k_bd (q_Ma_head d (by omega)  _) (fun s_39 x_39 g_39 => ?_)
                  obtain ⟨e_39, b_39⟩ := g_39
                  have e_39 := e_39.symm
                  subst e_39
                  refine k_bd (q_Wr_putHead d (by omega) _ _) (fun s_40 x_40 g_40 => ?_)
                  have f_40 : k_F [18, 19, 20, 21, 22, 23, 24, 26, 30] [(1, 1), (27, 5), (27, 10), (27, 11)] s s_40 := k_F.tr f_4 (k_F.mono g_40.1 rfl)
                  refine k_bd (q_Ma_headType d (by omega)  _) (fun s_41 x_41 g_41 => ?_)
                  obtain ⟨e_41, b_41⟩ := g_41
                  have e_41 := e_41.symm
                  subst e_41
                  refine k_bd (q_Ma_headTypeScope d (by omega)  _) (fun s_42 x_42 g_42 => ?_)
                  obtain ⟨e_42, b_42⟩ := g_42
                  have e_42 := e_42.symm
                  subst e_42
                  refine k_bd (q_Ma_row d (by omega)  _) (fun s_43 x_43 g_43 => ?_)
                  obtain ⟨e_43, b_43⟩ := g_43
                  have e_43 := e_43.symm
                  subst e_43
                  refine k_bd (hO _ _ _ _ _ _ (k_Jto (k_Jle2 hJ h1))) (fun s_44 x_44 g_44 => ?_)
                  have f_44 : k_F [18, 19, 20, 21, 22, 23, 24, 26, 30] [(1, 1), (27, 5), (27, 10), (27, 11)] s s_44 := k_F.tr f_40 (k_F.mono g_44.1 rfl)
                  refine k_if (fun h45 => ?_) (fun h45 => ?_)
                  ·
                    exact k_some ⟨f_44, k_b0⟩
                  ·
                    refine k_bd (q_Pa_put d (by omega) _ _) (fun s_46 x_46 g_46 => ?_)
                    have f_46 : k_F [18, 19, 20, 21, 22, 23, 24, 26, 30] [(1, 1), (27, 5), (27, 10), (27, 11)] s s_46 := k_F.tr f_44 (k_F.mono g_46.1 rfl)
                    exact k_some ⟨f_46, k_b0⟩
                ·
                  refine k_if (fun h47 => ?_) (fun h47 => ?_)
                  ·
                    refine k_bd (q_Pa_put d (by omega) _ _) (fun s_48 x_48 g_48 => ?_)
                    have f_48 : k_F [18, 19, 20, 21, 22, 23, 24, 26, 30] [(1, 1), (27, 5), (27, 10), (27, 11)] s s_48 := k_F.tr f_4 (k_F.mono g_48.1 rfl)
                    rw [e_Wr_object_304]
                    refine k_bd (q_Ma_head d (by omega)  _) (fun s_49 x_49 g_49 => ?_)
                    obtain ⟨e_49, b_49⟩ := g_49
                    have e_49 := e_49.symm
                    subst e_49
                    refine k_bd (q_Wr_putHead d (by omega) _ _) (fun s_50 x_50 g_50 => ?_)
                    have f_50 : k_F [18, 19, 20, 21, 22, 23, 24, 26, 30] [(1, 1), (27, 5), (27, 10), (27, 11)] s s_50 := k_F.tr f_48 (k_F.mono g_50.1 rfl)
                    refine k_bd (q_Ma_headType d (by omega)  _) (fun s_51 x_51 g_51 => ?_)
                    obtain ⟨e_51, b_51⟩ := g_51
                    have e_51 := e_51.symm
                    subst e_51
                    refine k_bd (q_Ma_headTypeScope d (by omega)  _) (fun s_52 x_52 g_52 => ?_)
                    obtain ⟨e_52, b_52⟩ := g_52
                    have e_52 := e_52.symm
                    subst e_52
                    refine k_bd (q_Ma_row d (by omega)  _) (fun s_53 x_53 g_53 => ?_)
                    obtain ⟨e_53, b_53⟩ := g_53
                    have e_53 := e_53.symm
                    subst e_53
                    refine k_bd (hO _ _ _ _ _ _ (k_Jto (k_Jle2 hJ h1))) (fun s_54 x_54 g_54 => ?_)
                    have f_54 : k_F [18, 19, 20, 21, 22, 23, 24, 26, 30] [(1, 1), (27, 5), (27, 10), (27, 11)] s s_54 := k_F.tr f_50 (k_F.mono g_54.1 rfl)
                    refine k_if (fun h55 => ?_) (fun h55 => ?_)
                    ·
                      exact k_some ⟨f_54, k_b0⟩
                    ·
                      refine k_bd (q_Pa_put d (by omega) _ _) (fun s_56 x_56 g_56 => ?_)
                      have f_56 : k_F [18, 19, 20, 21, 22, 23, 24, 26, 30] [(1, 1), (27, 5), (27, 10), (27, 11)] s s_56 := k_F.tr f_54 (k_F.mono g_56.1 rfl)
                      exact k_some ⟨f_56, k_b0⟩
                  ·
                    rw [e_Wr_object_304]
                    refine k_bd (q_Ma_head d (by omega)  _) (fun s_57 x_57 g_57 => ?_)
                    obtain ⟨e_57, b_57⟩ := g_57
                    have e_57 := e_57.symm
                    subst e_57
                    refine k_bd (q_Wr_putHead d (by omega) _ _) (fun s_58 x_58 g_58 => ?_)
                    have f_58 : k_F [18, 19, 20, 21, 22, 23, 24, 26, 30] [(1, 1), (27, 5), (27, 10), (27, 11)] s s_58 := k_F.tr f_4 (k_F.mono g_58.1 rfl)
                    refine k_bd (q_Ma_headType d (by omega)  _) (fun s_59 x_59 g_59 => ?_)
                    obtain ⟨e_59, b_59⟩ := g_59
                    have e_59 := e_59.symm
                    subst e_59
                    refine k_bd (q_Ma_headTypeScope d (by omega)  _) (fun s_60 x_60 g_60 => ?_)
                    obtain ⟨e_60, b_60⟩ := g_60
                    have e_60 := e_60.symm
                    subst e_60
                    refine k_bd (q_Ma_row d (by omega)  _) (fun s_61 x_61 g_61 => ?_)
                    obtain ⟨e_61, b_61⟩ := g_61
                    have e_61 := e_61.symm
                    subst e_61
                    refine k_bd (hO _ _ _ _ _ _ (k_Jto (k_Jle2 hJ h1))) (fun s_62 x_62 g_62 => ?_)
                    have f_62 : k_F [18, 19, 20, 21, 22, 23, 24, 26, 30] [(1, 1), (27, 5), (27, 10), (27, 11)] s s_62 := k_F.tr f_58 (k_F.mono g_62.1 rfl)
                    refine k_if (fun h63 => ?_) (fun h63 => ?_)
                    ·
                      exact k_some ⟨f_62, k_b0⟩
                    ·
                      refine k_bd (q_Pa_put d (by omega) _ _) (fun s_64 x_64 g_64 => ?_)
                      have f_64 : k_F [18, 19, 20, 21, 22, 23, 24, 26, 30] [(1, 1), (27, 5), (27, 10), (27, 11)] s s_64 := k_F.tr f_62 (k_F.mono g_64.1 rfl)
                      exact k_some ⟨f_64, k_b0⟩
              ·
                rw [e_Wr_object_283]
                refine k_if (fun h65 => ?_) (fun h65 => ?_)
                ·
                  rw [e_Wr_object_304]
                  refine k_bd (q_Ma_head d (by omega)  _) (fun s_66 x_66 g_66 => ?_)
                  obtain ⟨e_66, b_66⟩ := g_66
                  have e_66 := e_66.symm
                  subst e_66
                  refine k_bd (q_Wr_putHead d (by omega) _ _) (fun s_67 x_67 g_67 => ?_)
                  have f_67 : k_F [18, 19, 20, 21, 22, 23, 24, 26, 30] [(1, 1), (27, 5), (27, 10), (27, 11)] s s_67 := k_F.tr f_4 (k_F.mono g_67.1 rfl)
                  refine k_bd (q_Ma_headType d (by omega)  _) (fun s_68 x_68 g_68 => ?_)
                  obtain ⟨e_68, b_68⟩ := g_68
                  have e_68 := e_68.symm
                  subst e_68
                  refine k_bd (q_Ma_headTypeScope d (by omega)  _) (fun s_69 x_69 g_69 => ?_)
                  obtain ⟨e_69, b_69⟩ := g_69
                  have e_69 := e_69.symm
                  subst e_69
                  refine k_bd (q_Ma_row d (by omega)  _) (fun s_70 x_70 g_70 => ?_)
                  obtain ⟨e_70, b_70⟩ := g_70
                  have e_70 := e_70.symm
                  subst e_70
                  refine k_bd (hO _ _ _ _ _ _ (k_Jto (k_Jle2 hJ h1))) (fun s_71 x_71 g_71 => ?_)
                  have f_71 : k_F [18, 19, 20, 21, 22, 23, 24, 26, 30] [(1, 1), (27, 5), (27, 10), (27, 11)] s s_71 := k_F.tr f_67 (k_F.mono g_71.1 rfl)
                  refine k_if (fun h72 => ?_) (fun h72 => ?_)
                  ·
                    exact k_some ⟨f_71, k_b0⟩
                  ·
                    refine k_bd (q_Pa_put d (by omega) _ _) (fun s_73 x_73 g_73 => ?_)
                    have f_73 : k_F [18, 19, 20, 21, 22, 23, 24, 26, 30] [(1, 1), (27, 5), (27, 10), (27, 11)] s s_73 := k_F.tr f_71 (k_F.mono g_73.1 rfl)
                    exact k_some ⟨f_73, k_b0⟩
                ·
                  refine k_if (fun h74 => ?_) (fun h74 => ?_)
                  ·
                    refine k_bd (q_Pa_put d (by omega) _ _) (fun s_75 x_75 g_75 => ?_)
                    have f_75 : k_F [18, 19, 20, 21, 22, 23, 24, 26, 30] [(1, 1), (27, 5), (27, 10), (27, 11)] s s_75 := k_F.tr f_4 (k_F.mono g_75.1 rfl)
                    rw [e_Wr_object_304]
                    refine k_bd (q_Ma_head d (by omega)  _) (fun s_76 x_76 g_76 => ?_)
                    obtain ⟨e_76, b_76⟩ := g_76
                    have e_76 := e_76.symm
                    subst e_76
                    refine k_bd (q_Wr_putHead d (by omega) _ _) (fun s_77 x_77 g_77 => ?_)
                    have f_77 : k_F [18, 19, 20, 21, 22, 23, 24, 26, 30] [(1, 1), (27, 5), (27, 10), (27, 11)] s s_77 := k_F.tr f_75 (k_F.mono g_77.1 rfl)
                    refine k_bd (q_Ma_headType d (by omega)  _) (fun s_78 x_78 g_78 => ?_)
                    obtain ⟨e_78, b_78⟩ := g_78
                    have e_78 := e_78.symm
                    subst e_78
                    refine k_bd (q_Ma_headTypeScope d (by omega)  _) (fun s_79 x_79 g_79 => ?_)
                    obtain ⟨e_79, b_79⟩ := g_79
                    have e_79 := e_79.symm
                    subst e_79
                    refine k_bd (q_Ma_row d (by omega)  _) (fun s_80 x_80 g_80 => ?_)
                    obtain ⟨e_80, b_80⟩ := g_80
                    have e_80 := e_80.symm
                    subst e_80
                    refine k_bd (hO _ _ _ _ _ _ (k_Jto (k_Jle2 hJ h1))) (fun s_81 x_81 g_81 => ?_)
                    have f_81 : k_F [18, 19, 20, 21, 22, 23, 24, 26, 30] [(1, 1), (27, 5), (27, 10), (27, 11)] s s_81 := k_F.tr f_77 (k_F.mono g_81.1 rfl)
                    refine k_if (fun h82 => ?_) (fun h82 => ?_)
                    ·
                      exact k_some ⟨f_81, k_b0⟩
                    ·
                      refine k_bd (q_Pa_put d (by omega) _ _) (fun s_83 x_83 g_83 => ?_)
                      have f_83 : k_F [18, 19, 20, 21, 22, 23, 24, 26, 30] [(1, 1), (27, 5), (27, 10), (27, 11)] s s_83 := k_F.tr f_81 (k_F.mono g_83.1 rfl)
                      exact k_some ⟨f_83, k_b0⟩
                  ·
                    rw [e_Wr_object_304]
                    refine k_bd (q_Ma_head d (by omega)  _) (fun s_84 x_84 g_84 => ?_)
                    obtain ⟨e_84, b_84⟩ := g_84
                    have e_84 := e_84.symm
                    subst e_84
                    refine k_bd (q_Wr_putHead d (by omega) _ _) (fun s_85 x_85 g_85 => ?_)
                    have f_85 : k_F [18, 19, 20, 21, 22, 23, 24, 26, 30] [(1, 1), (27, 5), (27, 10), (27, 11)] s s_85 := k_F.tr f_4 (k_F.mono g_85.1 rfl)
                    refine k_bd (q_Ma_headType d (by omega)  _) (fun s_86 x_86 g_86 => ?_)
                    obtain ⟨e_86, b_86⟩ := g_86
                    have e_86 := e_86.symm
                    subst e_86
                    refine k_bd (q_Ma_headTypeScope d (by omega)  _) (fun s_87 x_87 g_87 => ?_)
                    obtain ⟨e_87, b_87⟩ := g_87
                    have e_87 := e_87.symm
                    subst e_87
                    refine k_bd (q_Ma_row d (by omega)  _) (fun s_88 x_88 g_88 => ?_)
                    obtain ⟨e_88, b_88⟩ := g_88
                    have e_88 := e_88.symm
                    subst e_88
                    refine k_bd (hO _ _ _ _ _ _ (k_Jto (k_Jle2 hJ h1))) (fun s_89 x_89 g_89 => ?_)
                    have f_89 : k_F [18, 19, 20, 21, 22, 23, 24, 26, 30] [(1, 1), (27, 5), (27, 10), (27, 11)] s s_89 := k_F.tr f_85 (k_F.mono g_89.1 rfl)
                    refine k_if (fun h90 => ?_) (fun h90 => ?_)
                    ·
                      exact k_some ⟨f_89, k_b0⟩
                    ·
                      refine k_bd (q_Pa_put d (by omega) _ _) (fun s_91 x_91 g_91 => ?_)
                      have f_91 : k_F [18, 19, 20, 21, 22, 23, 24, 26, 30] [(1, 1), (27, 5), (27, 10), (27, 11)] s s_91 := k_F.tr f_89 (k_F.mono g_91.1 rfl)
                      exact k_some ⟨f_91, k_b0⟩
            ·
              rw [e_Wr_object_283]
              refine k_if (fun h92 => ?_) (fun h92 => ?_)
              ·
                rw [e_Wr_object_304]
                refine k_bd (q_Ma_head d (by omega)  _) (fun s_93 x_93 g_93 => ?_)
                obtain ⟨e_93, b_93⟩ := g_93
                have e_93 := e_93.symm
                subst e_93
                refine k_bd (q_Wr_putHead d (by omega) _ _) (fun s_94 x_94 g_94 => ?_)
                have f_94 : k_F [18, 19, 20, 21, 22, 23, 24, 26, 30] [(1, 1), (27, 5), (27, 10), (27, 11)] s s_94 := k_F.tr f_4 (k_F.mono g_94.1 rfl)
                refine k_bd (q_Ma_headType d (by omega)  _) (fun s_95 x_95 g_95 => ?_)
                obtain ⟨e_95, b_95⟩ := g_95
                have e_95 := e_95.symm
                subst e_95
                refine k_bd (q_Ma_headTypeScope d (by omega)  _) (fun s_96 x_96 g_96 => ?_)
                obtain ⟨e_96, b_96⟩ := g_96
                have e_96 := e_96.symm
                subst e_96
                refine k_bd (q_Ma_row d (by omega)  _) (fun s_97 x_97 g_97 => ?_)
                obtain ⟨e_97, b_97⟩ := g_97
                have e_97 := e_97.symm
                subst e_97
                refine k_bd (hO _ _ _ _ _ _ (k_Jto (k_Jle2 hJ h1))) (fun s_98 x_98 g_98 => ?_)
                have f_98 : k_F [18, 19, 20, 21, 22, 23, 24, 26, 30] [(1, 1), (27, 5), (27, 10), (27, 11)] s s_98 := k_F.tr f_94 (k_F.mono g_98.1 rfl)
                refine k_if (fun h99 => ?_) (fun h99 => ?_)
                ·
                  exact k_some ⟨f_98, k_b0⟩
                ·
                  refine k_bd (q_Pa_put d (by omega) _ _) (fun s_100 x_100 g_100 => ?_)
                  have f_100 : k_F [18, 19, 20, 21, 22, 23, 24, 26, 30] [(1, 1), (27, 5), (27, 10), (27, 11)] s s_100 := k_F.tr f_98 (k_F.mono g_100.1 rfl)
                  exact k_some ⟨f_100, k_b0⟩
              ·
                refine k_if (fun h101 => ?_) (fun h101 => ?_)
                ·
                  refine k_bd (q_Pa_put d (by omega) _ _) (fun s_102 x_102 g_102 => ?_)
                  have f_102 : k_F [18, 19, 20, 21, 22, 23, 24, 26, 30] [(1, 1), (27, 5), (27, 10), (27, 11)] s s_102 := k_F.tr f_4 (k_F.mono g_102.1 rfl)
                  rw [e_Wr_object_304]
                  refine k_bd (q_Ma_head d (by omega)  _) (fun s_103 x_103 g_103 => ?_)
                  obtain ⟨e_103, b_103⟩ := g_103
                  have e_103 := e_103.symm
                  subst e_103
                  refine k_bd (q_Wr_putHead d (by omega) _ _) (fun s_104 x_104 g_104 => ?_)
                  have f_104 : k_F [18, 19, 20, 21, 22, 23, 24, 26, 30] [(1, 1), (27, 5), (27, 10), (27, 11)] s s_104 := k_F.tr f_102 (k_F.mono g_104.1 rfl)
                  refine k_bd (q_Ma_headType d (by omega)  _) (fun s_105 x_105 g_105 => ?_)
                  obtain ⟨e_105, b_105⟩ := g_105
                  have e_105 := e_105.symm
                  subst e_105
                  refine k_bd (q_Ma_headTypeScope d (by omega)  _) (fun s_106 x_106 g_106 => ?_)
                  obtain ⟨e_106, b_106⟩ := g_106
                  have e_106 := e_106.symm
                  subst e_106
                  refine k_bd (q_Ma_row d (by omega)  _) (fun s_107 x_107 g_107 => ?_)
                  obtain ⟨e_107, b_107⟩ := g_107
                  have e_107 := e_107.symm
                  subst e_107
                  refine k_bd (hO _ _ _ _ _ _ (k_Jto (k_Jle2 hJ h1))) (fun s_108 x_108 g_108 => ?_)
                  have f_108 : k_F [18, 19, 20, 21, 22, 23, 24, 26, 30] [(1, 1), (27, 5), (27, 10), (27, 11)] s s_108 := k_F.tr f_104 (k_F.mono g_108.1 rfl)
                  refine k_if (fun h109 => ?_) (fun h109 => ?_)
                  ·
                    exact k_some ⟨f_108, k_b0⟩
                  ·
                    refine k_bd (q_Pa_put d (by omega) _ _) (fun s_110 x_110 g_110 => ?_)
                    have f_110 : k_F [18, 19, 20, 21, 22, 23, 24, 26, 30] [(1, 1), (27, 5), (27, 10), (27, 11)] s s_110 := k_F.tr f_108 (k_F.mono g_110.1 rfl)
                    exact k_some ⟨f_110, k_b0⟩
                ·
                  rw [e_Wr_object_304]
                  refine k_bd (q_Ma_head d (by omega)  _) (fun s_111 x_111 g_111 => ?_)
                  obtain ⟨e_111, b_111⟩ := g_111
                  have e_111 := e_111.symm
                  subst e_111
                  refine k_bd (q_Wr_putHead d (by omega) _ _) (fun s_112 x_112 g_112 => ?_)
                  have f_112 : k_F [18, 19, 20, 21, 22, 23, 24, 26, 30] [(1, 1), (27, 5), (27, 10), (27, 11)] s s_112 := k_F.tr f_4 (k_F.mono g_112.1 rfl)
                  refine k_bd (q_Ma_headType d (by omega)  _) (fun s_113 x_113 g_113 => ?_)
                  obtain ⟨e_113, b_113⟩ := g_113
                  have e_113 := e_113.symm
                  subst e_113
                  refine k_bd (q_Ma_headTypeScope d (by omega)  _) (fun s_114 x_114 g_114 => ?_)
                  obtain ⟨e_114, b_114⟩ := g_114
                  have e_114 := e_114.symm
                  subst e_114
                  refine k_bd (q_Ma_row d (by omega)  _) (fun s_115 x_115 g_115 => ?_)
                  obtain ⟨e_115, b_115⟩ := g_115
                  have e_115 := e_115.symm
                  subst e_115
                  refine k_bd (hO _ _ _ _ _ _ (k_Jto (k_Jle2 hJ h1))) (fun s_116 x_116 g_116 => ?_)
                  have f_116 : k_F [18, 19, 20, 21, 22, 23, 24, 26, 30] [(1, 1), (27, 5), (27, 10), (27, 11)] s s_116 := k_F.tr f_112 (k_F.mono g_116.1 rfl)
                  refine k_if (fun h117 => ?_) (fun h117 => ?_)
                  ·
                    exact k_some ⟨f_116, k_b0⟩
                  ·
                    refine k_bd (q_Pa_put d (by omega) _ _) (fun s_118 x_118 g_118 => ?_)
                    have f_118 : k_F [18, 19, 20, 21, 22, 23, 24, 26, 30] [(1, 1), (27, 5), (27, 10), (27, 11)] s s_118 := k_F.tr f_116 (k_F.mono g_118.1 rfl)
                    exact k_some ⟨f_118, k_b0⟩
        ·
          rw [e_Wr_object_256]
          refine k_if (fun h119 => ?_) (fun h119 => ?_)
          ·
            rw [e_Wr_object_283]
            refine k_if (fun h120 => ?_) (fun h120 => ?_)
            ·
              rw [e_Wr_object_304]
              refine k_bd (q_Ma_head d (by omega)  _) (fun s_121 x_121 g_121 => ?_)
              obtain ⟨e_121, b_121⟩ := g_121
              have e_121 := e_121.symm
              subst e_121
              refine k_bd (q_Wr_putHead d (by omega) _ _) (fun s_122 x_122 g_122 => ?_)
              have f_122 : k_F [18, 19, 20, 21, 22, 23, 24, 26, 30] [(1, 1), (27, 5), (27, 10), (27, 11)] s s_122 := k_F.tr f_4 (k_F.mono g_122.1 rfl)
              refine k_bd (q_Ma_headType d (by omega)  _) (fun s_123 x_123 g_123 => ?_)
              obtain ⟨e_123, b_123⟩ := g_123
              have e_123 := e_123.symm
              subst e_123
              refine k_bd (q_Ma_headTypeScope d (by omega)  _) (fun s_124 x_124 g_124 => ?_)
              obtain ⟨e_124, b_124⟩ := g_124
              have e_124 := e_124.symm
              subst e_124
              refine k_bd (q_Ma_row d (by omega)  _) (fun s_125 x_125 g_125 => ?_)
              obtain ⟨e_125, b_125⟩ := g_125
              have e_125 := e_125.symm
              subst e_125
              refine k_bd (hO _ _ _ _ _ _ (k_Jto (k_Jle2 hJ h1))) (fun s_126 x_126 g_126 => ?_)
              have f_126 : k_F [18, 19, 20, 21, 22, 23, 24, 26, 30] [(1, 1), (27, 5), (27, 10), (27, 11)] s s_126 := k_F.tr f_122 (k_F.mono g_126.1 rfl)
              refine k_if (fun h127 => ?_) (fun h127 => ?_)
              ·
                exact k_some ⟨f_126, k_b0⟩
              ·
                refine k_bd (q_Pa_put d (by omega) _ _) (fun s_128 x_128 g_128 => ?_)
                have f_128 : k_F [18, 19, 20, 21, 22, 23, 24, 26, 30] [(1, 1), (27, 5), (27, 10), (27, 11)] s s_128 := k_F.tr f_126 (k_F.mono g_128.1 rfl)
                exact k_some ⟨f_128, k_b0⟩
            ·
              refine k_if (fun h129 => ?_) (fun h129 => ?_)
              ·
                refine k_bd (q_Pa_put d (by omega) _ _) (fun s_130 x_130 g_130 => ?_)
                have f_130 : k_F [18, 19, 20, 21, 22, 23, 24, 26, 30] [(1, 1), (27, 5), (27, 10), (27, 11)] s s_130 := k_F.tr f_4 (k_F.mono g_130.1 rfl)
                rw [e_Wr_object_304]
                refine k_bd (q_Ma_head d (by omega)  _) (fun s_131 x_131 g_131 => ?_)
                obtain ⟨e_131, b_131⟩ := g_131
                have e_131 := e_131.symm
                subst e_131
                refine k_bd (q_Wr_putHead d (by omega) _ _) (fun s_132 x_132 g_132 => ?_)
                have f_132 : k_F [18, 19, 20, 21, 22, 23, 24, 26, 30] [(1, 1), (27, 5), (27, 10), (27, 11)] s s_132 := k_F.tr f_130 (k_F.mono g_132.1 rfl)
                refine k_bd (q_Ma_headType d (by omega)  _) (fun s_133 x_133 g_133 => ?_)
                obtain ⟨e_133, b_133⟩ := g_133
                have e_133 := e_133.symm
                subst e_133
                refine k_bd (q_Ma_headTypeScope d (by omega)  _) (fun s_134 x_134 g_134 => ?_)
                obtain ⟨e_134, b_134⟩ := g_134
                have e_134 := e_134.symm
                subst e_134
                refine k_bd (q_Ma_row d (by omega)  _) (fun s_135 x_135 g_135 => ?_)
                obtain ⟨e_135, b_135⟩ := g_135
                have e_135 := e_135.symm
                subst e_135
                refine k_bd (hO _ _ _ _ _ _ (k_Jto (k_Jle2 hJ h1))) (fun s_136 x_136 g_136 => ?_)
                have f_136 : k_F [18, 19, 20, 21, 22, 23, 24, 26, 30] [(1, 1), (27, 5), (27, 10), (27, 11)] s s_136 := k_F.tr f_132 (k_F.mono g_136.1 rfl)
                refine k_if (fun h137 => ?_) (fun h137 => ?_)
                ·
                  exact k_some ⟨f_136, k_b0⟩
                ·
                  refine k_bd (q_Pa_put d (by omega) _ _) (fun s_138 x_138 g_138 => ?_)
                  have f_138 : k_F [18, 19, 20, 21, 22, 23, 24, 26, 30] [(1, 1), (27, 5), (27, 10), (27, 11)] s s_138 := k_F.tr f_136 (k_F.mono g_138.1 rfl)
                  exact k_some ⟨f_138, k_b0⟩
              ·
                rw [e_Wr_object_304]
                refine k_bd (q_Ma_head d (by omega)  _) (fun s_139 x_139 g_139 => ?_)
                obtain ⟨e_139, b_139⟩ := g_139
                have e_139 := e_139.symm
                subst e_139
                refine k_bd (q_Wr_putHead d (by omega) _ _) (fun s_140 x_140 g_140 => ?_)
                have f_140 : k_F [18, 19, 20, 21, 22, 23, 24, 26, 30] [(1, 1), (27, 5), (27, 10), (27, 11)] s s_140 := k_F.tr f_4 (k_F.mono g_140.1 rfl)
                refine k_bd (q_Ma_headType d (by omega)  _) (fun s_141 x_141 g_141 => ?_)
                obtain ⟨e_141, b_141⟩ := g_141
                have e_141 := e_141.symm
                subst e_141
                refine k_bd (q_Ma_headTypeScope d (by omega)  _) (fun s_142 x_142 g_142 => ?_)
                obtain ⟨e_142, b_142⟩ := g_142
                have e_142 := e_142.symm
                subst e_142
                refine k_bd (q_Ma_row d (by omega)  _) (fun s_143 x_143 g_143 => ?_)
                obtain ⟨e_143, b_143⟩ := g_143
                have e_143 := e_143.symm
                subst e_143
                refine k_bd (hO _ _ _ _ _ _ (k_Jto (k_Jle2 hJ h1))) (fun s_144 x_144 g_144 => ?_)
                have f_144 : k_F [18, 19, 20, 21, 22, 23, 24, 26, 30] [(1, 1), (27, 5), (27, 10), (27, 11)] s s_144 := k_F.tr f_140 (k_F.mono g_144.1 rfl)
                refine k_if (fun h145 => ?_) (fun h145 => ?_)
                ·
                  exact k_some ⟨f_144, k_b0⟩
                ·
                  refine k_bd (q_Pa_put d (by omega) _ _) (fun s_146 x_146 g_146 => ?_)
                  have f_146 : k_F [18, 19, 20, 21, 22, 23, 24, 26, 30] [(1, 1), (27, 5), (27, 10), (27, 11)] s s_146 := k_F.tr f_144 (k_F.mono g_146.1 rfl)
                  exact k_some ⟨f_146, k_b0⟩
          ·
            refine k_if (fun h147 => ?_) (fun h147 => ?_)
            ·
              refine k_bd (q_Ma_row d (by omega)  _) (fun s_148 x_148 g_148 => ?_)
              obtain ⟨e_148, b_148⟩ := g_148
              have e_148 := e_148.symm
              subst e_148
              refine k_if (fun h149 => ?_) (fun h149 => ?_)
              ·
                rw [e_Wr_object_283]
                refine k_if (fun h150 => ?_) (fun h150 => ?_)
                ·
                  rw [e_Wr_object_304]
                  refine k_bd (q_Ma_head d (by omega)  _) (fun s_151 x_151 g_151 => ?_)
                  obtain ⟨e_151, b_151⟩ := g_151
                  have e_151 := e_151.symm
                  subst e_151
                  refine k_bd (q_Wr_putHead d (by omega) _ _) (fun s_152 x_152 g_152 => ?_)
                  have f_152 : k_F [18, 19, 20, 21, 22, 23, 24, 26, 30] [(1, 1), (27, 5), (27, 10), (27, 11)] s s_152 := k_F.tr f_4 (k_F.mono g_152.1 rfl)
                  refine k_bd (q_Ma_headType d (by omega)  _) (fun s_153 x_153 g_153 => ?_)
                  obtain ⟨e_153, b_153⟩ := g_153
                  have e_153 := e_153.symm
                  subst e_153
                  refine k_bd (q_Ma_headTypeScope d (by omega)  _) (fun s_154 x_154 g_154 => ?_)
                  obtain ⟨e_154, b_154⟩ := g_154
                  have e_154 := e_154.symm
                  subst e_154
                  refine k_bd (q_Ma_row d (by omega)  _) (fun s_155 x_155 g_155 => ?_)
                  obtain ⟨e_155, b_155⟩ := g_155
                  have e_155 := e_155.symm
                  subst e_155
                  refine k_bd (hO _ _ _ _ _ _ (k_Jto (k_Jle2 hJ h1))) (fun s_156 x_156 g_156 => ?_)
                  have f_156 : k_F [18, 19, 20, 21, 22, 23, 24, 26, 30] [(1, 1), (27, 5), (27, 10), (27, 11)] s s_156 := k_F.tr f_152 (k_F.mono g_156.1 rfl)
                  refine k_if (fun h157 => ?_) (fun h157 => ?_)
                  ·
                    exact k_some ⟨f_156, k_b0⟩
                  ·
                    refine k_bd (q_Pa_put d (by omega) _ _) (fun s_158 x_158 g_158 => ?_)
                    have f_158 : k_F [18, 19, 20, 21, 22, 23, 24, 26, 30] [(1, 1), (27, 5), (27, 10), (27, 11)] s s_158 := k_F.tr f_156 (k_F.mono g_158.1 rfl)
                    exact k_some ⟨f_158, k_b0⟩
                ·
                  refine k_if (fun h159 => ?_) (fun h159 => ?_)
                  ·
                    refine k_bd (q_Pa_put d (by omega) _ _) (fun s_160 x_160 g_160 => ?_)
                    have f_160 : k_F [18, 19, 20, 21, 22, 23, 24, 26, 30] [(1, 1), (27, 5), (27, 10), (27, 11)] s s_160 := k_F.tr f_4 (k_F.mono g_160.1 rfl)
                    rw [e_Wr_object_304]
                    refine k_bd (q_Ma_head d (by omega)  _) (fun s_161 x_161 g_161 => ?_)
                    obtain ⟨e_161, b_161⟩ := g_161
                    have e_161 := e_161.symm
                    subst e_161
                    refine k_bd (q_Wr_putHead d (by omega) _ _) (fun s_162 x_162 g_162 => ?_)
                    have f_162 : k_F [18, 19, 20, 21, 22, 23, 24, 26, 30] [(1, 1), (27, 5), (27, 10), (27, 11)] s s_162 := k_F.tr f_160 (k_F.mono g_162.1 rfl)
                    refine k_bd (q_Ma_headType d (by omega)  _) (fun s_163 x_163 g_163 => ?_)
                    obtain ⟨e_163, b_163⟩ := g_163
                    have e_163 := e_163.symm
                    subst e_163
                    refine k_bd (q_Ma_headTypeScope d (by omega)  _) (fun s_164 x_164 g_164 => ?_)
                    obtain ⟨e_164, b_164⟩ := g_164
                    have e_164 := e_164.symm
                    subst e_164
                    refine k_bd (q_Ma_row d (by omega)  _) (fun s_165 x_165 g_165 => ?_)
                    obtain ⟨e_165, b_165⟩ := g_165
                    have e_165 := e_165.symm
                    subst e_165
                    refine k_bd (hO _ _ _ _ _ _ (k_Jto (k_Jle2 hJ h1))) (fun s_166 x_166 g_166 => ?_)
                    have f_166 : k_F [18, 19, 20, 21, 22, 23, 24, 26, 30] [(1, 1), (27, 5), (27, 10), (27, 11)] s s_166 := k_F.tr f_162 (k_F.mono g_166.1 rfl)
                    refine k_if (fun h167 => ?_) (fun h167 => ?_)
                    ·
                      exact k_some ⟨f_166, k_b0⟩
                    ·
                      refine k_bd (q_Pa_put d (by omega) _ _) (fun s_168 x_168 g_168 => ?_)
                      have f_168 : k_F [18, 19, 20, 21, 22, 23, 24, 26, 30] [(1, 1), (27, 5), (27, 10), (27, 11)] s s_168 := k_F.tr f_166 (k_F.mono g_168.1 rfl)
                      exact k_some ⟨f_168, k_b0⟩
                  ·
                    rw [e_Wr_object_304]
                    refine k_bd (q_Ma_head d (by omega)  _) (fun s_169 x_169 g_169 => ?_)
                    obtain ⟨e_169, b_169⟩ := g_169
                    have e_169 := e_169.symm
                    subst e_169
                    refine k_bd (q_Wr_putHead d (by omega) _ _) (fun s_170 x_170 g_170 => ?_)
                    have f_170 : k_F [18, 19, 20, 21, 22, 23, 24, 26, 30] [(1, 1), (27, 5), (27, 10), (27, 11)] s s_170 := k_F.tr f_4 (k_F.mono g_170.1 rfl)
                    refine k_bd (q_Ma_headType d (by omega)  _) (fun s_171 x_171 g_171 => ?_)
                    obtain ⟨e_171, b_171⟩ := g_171
                    have e_171 := e_171.symm
                    subst e_171
                    refine k_bd (q_Ma_headTypeScope d (by omega)  _) (fun s_172 x_172 g_172 => ?_)
                    obtain ⟨e_172, b_172⟩ := g_172
                    have e_172 := e_172.symm
                    subst e_172
                    refine k_bd (q_Ma_row d (by omega)  _) (fun s_173 x_173 g_173 => ?_)
                    obtain ⟨e_173, b_173⟩ := g_173
                    have e_173 := e_173.symm
                    subst e_173
                    refine k_bd (hO _ _ _ _ _ _ (k_Jto (k_Jle2 hJ h1))) (fun s_174 x_174 g_174 => ?_)
                    have f_174 : k_F [18, 19, 20, 21, 22, 23, 24, 26, 30] [(1, 1), (27, 5), (27, 10), (27, 11)] s s_174 := k_F.tr f_170 (k_F.mono g_174.1 rfl)
                    refine k_if (fun h175 => ?_) (fun h175 => ?_)
                    ·
                      exact k_some ⟨f_174, k_b0⟩
                    ·
                      refine k_bd (q_Pa_put d (by omega) _ _) (fun s_176 x_176 g_176 => ?_)
                      have f_176 : k_F [18, 19, 20, 21, 22, 23, 24, 26, 30] [(1, 1), (27, 5), (27, 10), (27, 11)] s s_176 := k_F.tr f_174 (k_F.mono g_176.1 rfl)
                      exact k_some ⟨f_176, k_b0⟩
              ·
                rw [e_Wr_object_283]
                refine k_if (fun h177 => ?_) (fun h177 => ?_)
                ·
                  rw [e_Wr_object_304]
                  refine k_bd (q_Ma_head d (by omega)  _) (fun s_178 x_178 g_178 => ?_)
                  obtain ⟨e_178, b_178⟩ := g_178
                  have e_178 := e_178.symm
                  subst e_178
                  refine k_bd (q_Wr_putHead d (by omega) _ _) (fun s_179 x_179 g_179 => ?_)
                  have f_179 : k_F [18, 19, 20, 21, 22, 23, 24, 26, 30] [(1, 1), (27, 5), (27, 10), (27, 11)] s s_179 := k_F.tr f_4 (k_F.mono g_179.1 rfl)
                  refine k_bd (q_Ma_headType d (by omega)  _) (fun s_180 x_180 g_180 => ?_)
                  obtain ⟨e_180, b_180⟩ := g_180
                  have e_180 := e_180.symm
                  subst e_180
                  refine k_bd (q_Ma_headTypeScope d (by omega)  _) (fun s_181 x_181 g_181 => ?_)
                  obtain ⟨e_181, b_181⟩ := g_181
                  have e_181 := e_181.symm
                  subst e_181
                  refine k_bd (q_Ma_row d (by omega)  _) (fun s_182 x_182 g_182 => ?_)
                  obtain ⟨e_182, b_182⟩ := g_182
                  have e_182 := e_182.symm
                  subst e_182
                  refine k_bd (hO _ _ _ _ _ _ (k_Jto (k_Jle2 hJ h1))) (fun s_183 x_183 g_183 => ?_)
                  have f_183 : k_F [18, 19, 20, 21, 22, 23, 24, 26, 30] [(1, 1), (27, 5), (27, 10), (27, 11)] s s_183 := k_F.tr f_179 (k_F.mono g_183.1 rfl)
                  refine k_if (fun h184 => ?_) (fun h184 => ?_)
                  ·
                    exact k_some ⟨f_183, k_b0⟩
                  ·
                    refine k_bd (q_Pa_put d (by omega) _ _) (fun s_185 x_185 g_185 => ?_)
                    have f_185 : k_F [18, 19, 20, 21, 22, 23, 24, 26, 30] [(1, 1), (27, 5), (27, 10), (27, 11)] s s_185 := k_F.tr f_183 (k_F.mono g_185.1 rfl)
                    exact k_some ⟨f_185, k_b0⟩
                ·
                  refine k_if (fun h186 => ?_) (fun h186 => ?_)
                  ·
                    refine k_bd (q_Pa_put d (by omega) _ _) (fun s_187 x_187 g_187 => ?_)
                    have f_187 : k_F [18, 19, 20, 21, 22, 23, 24, 26, 30] [(1, 1), (27, 5), (27, 10), (27, 11)] s s_187 := k_F.tr f_4 (k_F.mono g_187.1 rfl)
                    rw [e_Wr_object_304]
                    refine k_bd (q_Ma_head d (by omega)  _) (fun s_188 x_188 g_188 => ?_)
                    obtain ⟨e_188, b_188⟩ := g_188
                    have e_188 := e_188.symm
                    subst e_188
                    refine k_bd (q_Wr_putHead d (by omega) _ _) (fun s_189 x_189 g_189 => ?_)
                    have f_189 : k_F [18, 19, 20, 21, 22, 23, 24, 26, 30] [(1, 1), (27, 5), (27, 10), (27, 11)] s s_189 := k_F.tr f_187 (k_F.mono g_189.1 rfl)
                    refine k_bd (q_Ma_headType d (by omega)  _) (fun s_190 x_190 g_190 => ?_)
                    obtain ⟨e_190, b_190⟩ := g_190
                    have e_190 := e_190.symm
                    subst e_190
                    refine k_bd (q_Ma_headTypeScope d (by omega)  _) (fun s_191 x_191 g_191 => ?_)
                    obtain ⟨e_191, b_191⟩ := g_191
                    have e_191 := e_191.symm
                    subst e_191
                    refine k_bd (q_Ma_row d (by omega)  _) (fun s_192 x_192 g_192 => ?_)
                    obtain ⟨e_192, b_192⟩ := g_192
                    have e_192 := e_192.symm
                    subst e_192
                    refine k_bd (hO _ _ _ _ _ _ (k_Jto (k_Jle2 hJ h1))) (fun s_193 x_193 g_193 => ?_)
                    have f_193 : k_F [18, 19, 20, 21, 22, 23, 24, 26, 30] [(1, 1), (27, 5), (27, 10), (27, 11)] s s_193 := k_F.tr f_189 (k_F.mono g_193.1 rfl)
                    refine k_if (fun h194 => ?_) (fun h194 => ?_)
                    ·
                      exact k_some ⟨f_193, k_b0⟩
                    ·
                      refine k_bd (q_Pa_put d (by omega) _ _) (fun s_195 x_195 g_195 => ?_)
                      have f_195 : k_F [18, 19, 20, 21, 22, 23, 24, 26, 30] [(1, 1), (27, 5), (27, 10), (27, 11)] s s_195 := k_F.tr f_193 (k_F.mono g_195.1 rfl)
                      exact k_some ⟨f_195, k_b0⟩
                  ·
                    rw [e_Wr_object_304]
                    refine k_bd (q_Ma_head d (by omega)  _) (fun s_196 x_196 g_196 => ?_)
                    obtain ⟨e_196, b_196⟩ := g_196
                    have e_196 := e_196.symm
                    subst e_196
                    refine k_bd (q_Wr_putHead d (by omega) _ _) (fun s_197 x_197 g_197 => ?_)
                    have f_197 : k_F [18, 19, 20, 21, 22, 23, 24, 26, 30] [(1, 1), (27, 5), (27, 10), (27, 11)] s s_197 := k_F.tr f_4 (k_F.mono g_197.1 rfl)
                    refine k_bd (q_Ma_headType d (by omega)  _) (fun s_198 x_198 g_198 => ?_)
                    obtain ⟨e_198, b_198⟩ := g_198
                    have e_198 := e_198.symm
                    subst e_198
                    refine k_bd (q_Ma_headTypeScope d (by omega)  _) (fun s_199 x_199 g_199 => ?_)
                    obtain ⟨e_199, b_199⟩ := g_199
                    have e_199 := e_199.symm
                    subst e_199
                    refine k_bd (q_Ma_row d (by omega)  _) (fun s_200 x_200 g_200 => ?_)
                    obtain ⟨e_200, b_200⟩ := g_200
                    have e_200 := e_200.symm
                    subst e_200
                    refine k_bd (hO _ _ _ _ _ _ (k_Jto (k_Jle2 hJ h1))) (fun s_201 x_201 g_201 => ?_)
                    have f_201 : k_F [18, 19, 20, 21, 22, 23, 24, 26, 30] [(1, 1), (27, 5), (27, 10), (27, 11)] s s_201 := k_F.tr f_197 (k_F.mono g_201.1 rfl)
                    refine k_if (fun h202 => ?_) (fun h202 => ?_)
                    ·
                      exact k_some ⟨f_201, k_b0⟩
                    ·
                      refine k_bd (q_Pa_put d (by omega) _ _) (fun s_203 x_203 g_203 => ?_)
                      have f_203 : k_F [18, 19, 20, 21, 22, 23, 24, 26, 30] [(1, 1), (27, 5), (27, 10), (27, 11)] s s_203 := k_F.tr f_201 (k_F.mono g_203.1 rfl)
                      exact k_some ⟨f_203, k_b0⟩
            ·
              rw [e_Wr_object_283]
              refine k_if (fun h204 => ?_) (fun h204 => ?_)
              ·
                rw [e_Wr_object_304]
                refine k_bd (q_Ma_head d (by omega)  _) (fun s_205 x_205 g_205 => ?_)
                obtain ⟨e_205, b_205⟩ := g_205
                have e_205 := e_205.symm
                subst e_205
                refine k_bd (q_Wr_putHead d (by omega) _ _) (fun s_206 x_206 g_206 => ?_)
                have f_206 : k_F [18, 19, 20, 21, 22, 23, 24, 26, 30] [(1, 1), (27, 5), (27, 10), (27, 11)] s s_206 := k_F.tr f_4 (k_F.mono g_206.1 rfl)
                refine k_bd (q_Ma_headType d (by omega)  _) (fun s_207 x_207 g_207 => ?_)
                obtain ⟨e_207, b_207⟩ := g_207
                have e_207 := e_207.symm
                subst e_207
                refine k_bd (q_Ma_headTypeScope d (by omega)  _) (fun s_208 x_208 g_208 => ?_)
                obtain ⟨e_208, b_208⟩ := g_208
                have e_208 := e_208.symm
                subst e_208
                refine k_bd (q_Ma_row d (by omega)  _) (fun s_209 x_209 g_209 => ?_)
                obtain ⟨e_209, b_209⟩ := g_209
                have e_209 := e_209.symm
                subst e_209
                refine k_bd (hO _ _ _ _ _ _ (k_Jto (k_Jle2 hJ h1))) (fun s_210 x_210 g_210 => ?_)
                have f_210 : k_F [18, 19, 20, 21, 22, 23, 24, 26, 30] [(1, 1), (27, 5), (27, 10), (27, 11)] s s_210 := k_F.tr f_206 (k_F.mono g_210.1 rfl)
                refine k_if (fun h211 => ?_) (fun h211 => ?_)
                ·
                  exact k_some ⟨f_210, k_b0⟩
                ·
                  refine k_bd (q_Pa_put d (by omega) _ _) (fun s_212 x_212 g_212 => ?_)
                  have f_212 : k_F [18, 19, 20, 21, 22, 23, 24, 26, 30] [(1, 1), (27, 5), (27, 10), (27, 11)] s s_212 := k_F.tr f_210 (k_F.mono g_212.1 rfl)
                  exact k_some ⟨f_212, k_b0⟩
              ·
                refine k_if (fun h213 => ?_) (fun h213 => ?_)
                ·
                  refine k_bd (q_Pa_put d (by omega) _ _) (fun s_214 x_214 g_214 => ?_)
                  have f_214 : k_F [18, 19, 20, 21, 22, 23, 24, 26, 30] [(1, 1), (27, 5), (27, 10), (27, 11)] s s_214 := k_F.tr f_4 (k_F.mono g_214.1 rfl)
                  rw [e_Wr_object_304]
                  refine k_bd (q_Ma_head d (by omega)  _) (fun s_215 x_215 g_215 => ?_)
                  obtain ⟨e_215, b_215⟩ := g_215
                  have e_215 := e_215.symm
                  subst e_215
                  refine k_bd (q_Wr_putHead d (by omega) _ _) (fun s_216 x_216 g_216 => ?_)
                  have f_216 : k_F [18, 19, 20, 21, 22, 23, 24, 26, 30] [(1, 1), (27, 5), (27, 10), (27, 11)] s s_216 := k_F.tr f_214 (k_F.mono g_216.1 rfl)
                  refine k_bd (q_Ma_headType d (by omega)  _) (fun s_217 x_217 g_217 => ?_)
                  obtain ⟨e_217, b_217⟩ := g_217
                  have e_217 := e_217.symm
                  subst e_217
                  refine k_bd (q_Ma_headTypeScope d (by omega)  _) (fun s_218 x_218 g_218 => ?_)
                  obtain ⟨e_218, b_218⟩ := g_218
                  have e_218 := e_218.symm
                  subst e_218
                  refine k_bd (q_Ma_row d (by omega)  _) (fun s_219 x_219 g_219 => ?_)
                  obtain ⟨e_219, b_219⟩ := g_219
                  have e_219 := e_219.symm
                  subst e_219
                  refine k_bd (hO _ _ _ _ _ _ (k_Jto (k_Jle2 hJ h1))) (fun s_220 x_220 g_220 => ?_)
                  have f_220 : k_F [18, 19, 20, 21, 22, 23, 24, 26, 30] [(1, 1), (27, 5), (27, 10), (27, 11)] s s_220 := k_F.tr f_216 (k_F.mono g_220.1 rfl)
                  refine k_if (fun h221 => ?_) (fun h221 => ?_)
                  ·
                    exact k_some ⟨f_220, k_b0⟩
                  ·
                    refine k_bd (q_Pa_put d (by omega) _ _) (fun s_222 x_222 g_222 => ?_)
                    have f_222 : k_F [18, 19, 20, 21, 22, 23, 24, 26, 30] [(1, 1), (27, 5), (27, 10), (27, 11)] s s_222 := k_F.tr f_220 (k_F.mono g_222.1 rfl)
                    exact k_some ⟨f_222, k_b0⟩
                ·
                  rw [e_Wr_object_304]
                  refine k_bd (q_Ma_head d (by omega)  _) (fun s_223 x_223 g_223 => ?_)
                  obtain ⟨e_223, b_223⟩ := g_223
                  have e_223 := e_223.symm
                  subst e_223
                  refine k_bd (q_Wr_putHead d (by omega) _ _) (fun s_224 x_224 g_224 => ?_)
                  have f_224 : k_F [18, 19, 20, 21, 22, 23, 24, 26, 30] [(1, 1), (27, 5), (27, 10), (27, 11)] s s_224 := k_F.tr f_4 (k_F.mono g_224.1 rfl)
                  refine k_bd (q_Ma_headType d (by omega)  _) (fun s_225 x_225 g_225 => ?_)
                  obtain ⟨e_225, b_225⟩ := g_225
                  have e_225 := e_225.symm
                  subst e_225
                  refine k_bd (q_Ma_headTypeScope d (by omega)  _) (fun s_226 x_226 g_226 => ?_)
                  obtain ⟨e_226, b_226⟩ := g_226
                  have e_226 := e_226.symm
                  subst e_226
                  refine k_bd (q_Ma_row d (by omega)  _) (fun s_227 x_227 g_227 => ?_)
                  obtain ⟨e_227, b_227⟩ := g_227
                  have e_227 := e_227.symm
                  subst e_227
                  refine k_bd (hO _ _ _ _ _ _ (k_Jto (k_Jle2 hJ h1))) (fun s_228 x_228 g_228 => ?_)
                  have f_228 : k_F [18, 19, 20, 21, 22, 23, 24, 26, 30] [(1, 1), (27, 5), (27, 10), (27, 11)] s s_228 := k_F.tr f_224 (k_F.mono g_228.1 rfl)
                  refine k_if (fun h229 => ?_) (fun h229 => ?_)
                  ·
                    exact k_some ⟨f_228, k_b0⟩
                  ·
                    refine k_bd (q_Pa_put d (by omega) _ _) (fun s_230 x_230 g_230 => ?_)
                    have f_230 : k_F [18, 19, 20, 21, 22, 23, 24, 26, 30] [(1, 1), (27, 5), (27, 10), (27, 11)] s s_230 := k_F.tr f_228 (k_F.mono g_230.1 rfl)
                    exact k_some ⟨f_230, k_b0⟩
    ·
      refine k_bd (q2_Me_question d (by omega) _ _) (fun s_231 x_231 g_231 => ?_)
      have f_231 : k_F [18, 19, 20, 21, 22, 23, 24, 26, 30] [(1, 1), (27, 5), (27, 10), (27, 11)] s s_231 := k_F.tr k_F.rf (k_F.mono g_231.1 rfl)
      refine k_if (fun h232 => ?_) (fun h232 => ?_)
      ·
        exact k_some ⟨f_231, k_b0⟩
      ·
        refine k_bd (q_Ma_expose d (by omega) _ _ _) (fun s_233 x_233 g_233 => ?_)
        have f_233 : k_F [18, 19, 20, 21, 22, 23, 24, 26, 30] [(1, 1), (27, 5), (27, 10), (27, 11)] s s_233 := k_F.tr f_231 (k_F.mono g_233.1 rfl)
        refine k_bd (q_Ma_shape d (by omega)  _) (fun s_234 x_234 g_234 => ?_)
        obtain ⟨e_234, b_234⟩ := g_234
        have e_234 := e_234.symm
        subst e_234
        refine k_bd (q_Ma_shapeScope d (by omega)  _) (fun s_235 x_235 g_235 => ?_)
        obtain ⟨e_235, b_235⟩ := g_235
        have e_235 := e_235.symm
        subst e_235
        rw [e_Wr_object_69]
        refine k_bd (q_No_isArrow d (by omega) _ _) (fun s_236 x_236 g_236 => ?_)
        obtain ⟨e_236, b_236⟩ := g_236
        have e_236 := e_236.symm
        subst e_236
        refine k_if (fun h237 => ?_) (fun h237 => ?_)
        ·
          rw [e_Wr_object_215]
          refine k_bd (q_Ce_term d (by omega) _ _) (fun s_238 x_238 g_238 => ?_)
          obtain ⟨e_238, b_238⟩ := g_238
          have e_238 := e_238.symm
          subst e_238
          refine k_bd (q_Ce_scope d (by omega) _ _) (fun s_239 x_239 g_239 => ?_)
          obtain ⟨e_239, b_239⟩ := g_239
          have e_239 := e_239.symm
          subst e_239
          refine k_bd (q_Ma_headForm d (by omega) _ _ _ _) (fun s_240 x_240 g_240 => ?_)
          have f_240 : k_F [18, 19, 20, 21, 22, 23, 24, 26, 30] [(1, 1), (27, 5), (27, 10), (27, 11)] s s_240 := k_F.tr f_233 (k_F.mono g_240.1 rfl)
          refine k_if (fun h241 => ?_) (fun h241 => ?_)
          ·
            exact k_some ⟨f_240, k_b0⟩
          ·
            refine k_if (fun h242 => ?_) (fun h242 => ?_)
            ·
              rw [e_Wr_object_256]
              refine k_if (fun h243 => ?_) (fun h243 => ?_)
              ·
                rw [e_Wr_object_283]
                refine k_if (fun h244 => ?_) (fun h244 => ?_)
                ·
                  rw [e_Wr_object_304]
                  refine k_bd (q_Ma_head d (by omega)  _) (fun s_245 x_245 g_245 => ?_)
                  obtain ⟨e_245, b_245⟩ := g_245
                  have e_245 := e_245.symm
                  subst e_245
                  refine k_bd (q_Wr_putHead d (by omega) _ _) (fun s_246 x_246 g_246 => ?_)
                  have f_246 : k_F [18, 19, 20, 21, 22, 23, 24, 26, 30] [(1, 1), (27, 5), (27, 10), (27, 11)] s s_246 := k_F.tr f_240 (k_F.mono g_246.1 rfl)
                  refine k_bd (q_Ma_headType d (by omega)  _) (fun s_247 x_247 g_247 => ?_)
                  obtain ⟨e_247, b_247⟩ := g_247
                  have e_247 := e_247.symm
                  subst e_247
                  refine k_bd (q_Ma_headTypeScope d (by omega)  _) (fun s_248 x_248 g_248 => ?_)
                  obtain ⟨e_248, b_248⟩ := g_248
                  have e_248 := e_248.symm
                  subst e_248
                  refine k_bd (q_Ma_row d (by omega)  _) (fun s_249 x_249 g_249 => ?_)
                  obtain ⟨e_249, b_249⟩ := g_249
                  have e_249 := e_249.symm
                  subst e_249
                  refine k_bd (hO _ _ _ _ _ _ (k_Jto (k_Jle hJ (g_231.2.2 h232)))) (fun s_250 x_250 g_250 => ?_)
                  have f_250 : k_F [18, 19, 20, 21, 22, 23, 24, 26, 30] [(1, 1), (27, 5), (27, 10), (27, 11)] s s_250 := k_F.tr f_246 (k_F.mono g_250.1 rfl)
                  refine k_if (fun h251 => ?_) (fun h251 => ?_)
                  ·
                    exact k_some ⟨f_250, k_b0⟩
                  ·
                    refine k_bd (q_Pa_put d (by omega) _ _) (fun s_252 x_252 g_252 => ?_)
                    have f_252 : k_F [18, 19, 20, 21, 22, 23, 24, 26, 30] [(1, 1), (27, 5), (27, 10), (27, 11)] s s_252 := k_F.tr f_250 (k_F.mono g_252.1 rfl)
                    exact k_some ⟨f_252, k_b0⟩
                ·
                  refine k_if (fun h253 => ?_) (fun h253 => ?_)
                  ·
                    refine k_bd (q_Pa_put d (by omega) _ _) (fun s_254 x_254 g_254 => ?_)
                    have f_254 : k_F [18, 19, 20, 21, 22, 23, 24, 26, 30] [(1, 1), (27, 5), (27, 10), (27, 11)] s s_254 := k_F.tr f_240 (k_F.mono g_254.1 rfl)
                    rw [e_Wr_object_304]
                    refine k_bd (q_Ma_head d (by omega)  _) (fun s_255 x_255 g_255 => ?_)
                    obtain ⟨e_255, b_255⟩ := g_255
                    have e_255 := e_255.symm
                    subst e_255
                    refine k_bd (q_Wr_putHead d (by omega) _ _) (fun s_256 x_256 g_256 => ?_)
                    have f_256 : k_F [18, 19, 20, 21, 22, 23, 24, 26, 30] [(1, 1), (27, 5), (27, 10), (27, 11)] s s_256 := k_F.tr f_254 (k_F.mono g_256.1 rfl)
                    refine k_bd (q_Ma_headType d (by omega)  _) (fun s_257 x_257 g_257 => ?_)
                    obtain ⟨e_257, b_257⟩ := g_257
                    have e_257 := e_257.symm
                    subst e_257
                    refine k_bd (q_Ma_headTypeScope d (by omega)  _) (fun s_258 x_258 g_258 => ?_)
                    obtain ⟨e_258, b_258⟩ := g_258
                    have e_258 := e_258.symm
                    subst e_258
                    refine k_bd (q_Ma_row d (by omega)  _) (fun s_259 x_259 g_259 => ?_)
                    obtain ⟨e_259, b_259⟩ := g_259
                    have e_259 := e_259.symm
                    subst e_259
                    refine k_bd (hO _ _ _ _ _ _ (k_Jto (k_Jle hJ (g_231.2.2 h232)))) (fun s_260 x_260 g_260 => ?_)
                    have f_260 : k_F [18, 19, 20, 21, 22, 23, 24, 26, 30] [(1, 1), (27, 5), (27, 10), (27, 11)] s s_260 := k_F.tr f_256 (k_F.mono g_260.1 rfl)
                    refine k_if (fun h261 => ?_) (fun h261 => ?_)
                    ·
                      exact k_some ⟨f_260, k_b0⟩
                    ·
                      refine k_bd (q_Pa_put d (by omega) _ _) (fun s_262 x_262 g_262 => ?_)
                      have f_262 : k_F [18, 19, 20, 21, 22, 23, 24, 26, 30] [(1, 1), (27, 5), (27, 10), (27, 11)] s s_262 := k_F.tr f_260 (k_F.mono g_262.1 rfl)
                      exact k_some ⟨f_262, k_b0⟩
                  ·
                    rw [e_Wr_object_304]
                    refine k_bd (q_Ma_head d (by omega)  _) (fun s_263 x_263 g_263 => ?_)
                    obtain ⟨e_263, b_263⟩ := g_263
                    have e_263 := e_263.symm
                    subst e_263
                    refine k_bd (q_Wr_putHead d (by omega) _ _) (fun s_264 x_264 g_264 => ?_)
                    have f_264 : k_F [18, 19, 20, 21, 22, 23, 24, 26, 30] [(1, 1), (27, 5), (27, 10), (27, 11)] s s_264 := k_F.tr f_240 (k_F.mono g_264.1 rfl)
                    refine k_bd (q_Ma_headType d (by omega)  _) (fun s_265 x_265 g_265 => ?_)
                    obtain ⟨e_265, b_265⟩ := g_265
                    have e_265 := e_265.symm
                    subst e_265
                    refine k_bd (q_Ma_headTypeScope d (by omega)  _) (fun s_266 x_266 g_266 => ?_)
                    obtain ⟨e_266, b_266⟩ := g_266
                    have e_266 := e_266.symm
                    subst e_266
                    refine k_bd (q_Ma_row d (by omega)  _) (fun s_267 x_267 g_267 => ?_)
                    obtain ⟨e_267, b_267⟩ := g_267
                    have e_267 := e_267.symm
                    subst e_267
                    refine k_bd (hO _ _ _ _ _ _ (k_Jto (k_Jle hJ (g_231.2.2 h232)))) (fun s_268 x_268 g_268 => ?_)
                    have f_268 : k_F [18, 19, 20, 21, 22, 23, 24, 26, 30] [(1, 1), (27, 5), (27, 10), (27, 11)] s s_268 := k_F.tr f_264 (k_F.mono g_268.1 rfl)
                    refine k_if (fun h269 => ?_) (fun h269 => ?_)
                    ·
                      exact k_some ⟨f_268, k_b0⟩
                    ·
                      refine k_bd (q_Pa_put d (by omega) _ _) (fun s_270 x_270 g_270 => ?_)
                      have f_270 : k_F [18, 19, 20, 21, 22, 23, 24, 26, 30] [(1, 1), (27, 5), (27, 10), (27, 11)] s s_270 := k_F.tr f_268 (k_F.mono g_270.1 rfl)
                      exact k_some ⟨f_270, k_b0⟩
              ·
                refine k_if (fun h271 => ?_) (fun h271 => ?_)
                ·
                  refine k_bd (q_Ma_row d (by omega)  _) (fun s_272 x_272 g_272 => ?_)
                  obtain ⟨e_272, b_272⟩ := g_272
                  have e_272 := e_272.symm
                  subst e_272
                  refine k_if (fun h273 => ?_) (fun h273 => ?_)
                  ·
                    rw [e_Wr_object_283]
                    refine k_if (fun h274 => ?_) (fun h274 => ?_)
                    ·
                      rw [e_Wr_object_304]
                      refine k_bd (q_Ma_head d (by omega)  _) (fun s_275 x_275 g_275 => ?_)
                      obtain ⟨e_275, b_275⟩ := g_275
                      have e_275 := e_275.symm
                      subst e_275
                      refine k_bd (q_Wr_putHead d (by omega) _ _) (fun s_276 x_276 g_276 => ?_)
                      have f_276 : k_F [18, 19, 20, 21, 22, 23, 24, 26, 30] [(1, 1), (27, 5), (27, 10), (27, 11)] s s_276 := k_F.tr f_240 (k_F.mono g_276.1 rfl)
                      refine k_bd (q_Ma_headType d (by omega)  _) (fun s_277 x_277 g_277 => ?_)
                      obtain ⟨e_277, b_277⟩ := g_277
                      have e_277 := e_277.symm
                      subst e_277
                      refine k_bd (q_Ma_headTypeScope d (by omega)  _) (fun s_278 x_278 g_278 => ?_)
                      obtain ⟨e_278, b_278⟩ := g_278
                      have e_278 := e_278.symm
                      subst e_278
                      refine k_bd (q_Ma_row d (by omega)  _) (fun s_279 x_279 g_279 => ?_)
                      obtain ⟨e_279, b_279⟩ := g_279
                      have e_279 := e_279.symm
                      subst e_279
                      refine k_bd (hO _ _ _ _ _ _ (k_Jto (k_Jle hJ (g_231.2.2 h232)))) (fun s_280 x_280 g_280 => ?_)
                      have f_280 : k_F [18, 19, 20, 21, 22, 23, 24, 26, 30] [(1, 1), (27, 5), (27, 10), (27, 11)] s s_280 := k_F.tr f_276 (k_F.mono g_280.1 rfl)
                      refine k_if (fun h281 => ?_) (fun h281 => ?_)
                      ·
                        exact k_some ⟨f_280, k_b0⟩
                      ·
                        refine k_bd (q_Pa_put d (by omega) _ _) (fun s_282 x_282 g_282 => ?_)
                        have f_282 : k_F [18, 19, 20, 21, 22, 23, 24, 26, 30] [(1, 1), (27, 5), (27, 10), (27, 11)] s s_282 := k_F.tr f_280 (k_F.mono g_282.1 rfl)
                        exact k_some ⟨f_282, k_b0⟩
                    ·
                      refine k_if (fun h283 => ?_) (fun h283 => ?_)
                      ·
                        refine k_bd (q_Pa_put d (by omega) _ _) (fun s_284 x_284 g_284 => ?_)
                        have f_284 : k_F [18, 19, 20, 21, 22, 23, 24, 26, 30] [(1, 1), (27, 5), (27, 10), (27, 11)] s s_284 := k_F.tr f_240 (k_F.mono g_284.1 rfl)
                        rw [e_Wr_object_304]
                        refine k_bd (q_Ma_head d (by omega)  _) (fun s_285 x_285 g_285 => ?_)
                        obtain ⟨e_285, b_285⟩ := g_285
                        have e_285 := e_285.symm
                        subst e_285
                        refine k_bd (q_Wr_putHead d (by omega) _ _) (fun s_286 x_286 g_286 => ?_)
                        have f_286 : k_F [18, 19, 20, 21, 22, 23, 24, 26, 30] [(1, 1), (27, 5), (27, 10), (27, 11)] s s_286 := k_F.tr f_284 (k_F.mono g_286.1 rfl)
                        refine k_bd (q_Ma_headType d (by omega)  _) (fun s_287 x_287 g_287 => ?_)
                        obtain ⟨e_287, b_287⟩ := g_287
                        have e_287 := e_287.symm
                        subst e_287
                        refine k_bd (q_Ma_headTypeScope d (by omega)  _) (fun s_288 x_288 g_288 => ?_)
                        obtain ⟨e_288, b_288⟩ := g_288
                        have e_288 := e_288.symm
                        subst e_288
                        refine k_bd (q_Ma_row d (by omega)  _) (fun s_289 x_289 g_289 => ?_)
                        obtain ⟨e_289, b_289⟩ := g_289
                        have e_289 := e_289.symm
                        subst e_289
                        refine k_bd (hO _ _ _ _ _ _ (k_Jto (k_Jle hJ (g_231.2.2 h232)))) (fun s_290 x_290 g_290 => ?_)
                        have f_290 : k_F [18, 19, 20, 21, 22, 23, 24, 26, 30] [(1, 1), (27, 5), (27, 10), (27, 11)] s s_290 := k_F.tr f_286 (k_F.mono g_290.1 rfl)
                        refine k_if (fun h291 => ?_) (fun h291 => ?_)
                        ·
                          exact k_some ⟨f_290, k_b0⟩
                        ·
                          refine k_bd (q_Pa_put d (by omega) _ _) (fun s_292 x_292 g_292 => ?_)
                          have f_292 : k_F [18, 19, 20, 21, 22, 23, 24, 26, 30] [(1, 1), (27, 5), (27, 10), (27, 11)] s s_292 := k_F.tr f_290 (k_F.mono g_292.1 rfl)
                          exact k_some ⟨f_292, k_b0⟩
                      ·
                        rw [e_Wr_object_304]
                        refine k_bd (q_Ma_head d (by omega)  _) (fun s_293 x_293 g_293 => ?_)
                        obtain ⟨e_293, b_293⟩ := g_293
                        have e_293 := e_293.symm
                        subst e_293
                        refine k_bd (q_Wr_putHead d (by omega) _ _) (fun s_294 x_294 g_294 => ?_)
                        have f_294 : k_F [18, 19, 20, 21, 22, 23, 24, 26, 30] [(1, 1), (27, 5), (27, 10), (27, 11)] s s_294 := k_F.tr f_240 (k_F.mono g_294.1 rfl)
                        refine k_bd (q_Ma_headType d (by omega)  _) (fun s_295 x_295 g_295 => ?_)
                        obtain ⟨e_295, b_295⟩ := g_295
                        have e_295 := e_295.symm
                        subst e_295
                        refine k_bd (q_Ma_headTypeScope d (by omega)  _) (fun s_296 x_296 g_296 => ?_)
                        obtain ⟨e_296, b_296⟩ := g_296
                        have e_296 := e_296.symm
                        subst e_296
                        refine k_bd (q_Ma_row d (by omega)  _) (fun s_297 x_297 g_297 => ?_)
                        obtain ⟨e_297, b_297⟩ := g_297
                        have e_297 := e_297.symm
                        subst e_297
                        refine k_bd (hO _ _ _ _ _ _ (k_Jto (k_Jle hJ (g_231.2.2 h232)))) (fun s_298 x_298 g_298 => ?_)
                        have f_298 : k_F [18, 19, 20, 21, 22, 23, 24, 26, 30] [(1, 1), (27, 5), (27, 10), (27, 11)] s s_298 := k_F.tr f_294 (k_F.mono g_298.1 rfl)
                        refine k_if (fun h299 => ?_) (fun h299 => ?_)
                        ·
                          exact k_some ⟨f_298, k_b0⟩
                        ·
                          refine k_bd (q_Pa_put d (by omega) _ _) (fun s_300 x_300 g_300 => ?_)
                          have f_300 : k_F [18, 19, 20, 21, 22, 23, 24, 26, 30] [(1, 1), (27, 5), (27, 10), (27, 11)] s s_300 := k_F.tr f_298 (k_F.mono g_300.1 rfl)
                          exact k_some ⟨f_300, k_b0⟩
                  ·
                    rw [e_Wr_object_283]
                    refine k_if (fun h301 => ?_) (fun h301 => ?_)
                    ·
                      rw [e_Wr_object_304]
                      refine k_bd (q_Ma_head d (by omega)  _) (fun s_302 x_302 g_302 => ?_)
                      obtain ⟨e_302, b_302⟩ := g_302
                      have e_302 := e_302.symm
                      subst e_302
                      refine k_bd (q_Wr_putHead d (by omega) _ _) (fun s_303 x_303 g_303 => ?_)
                      have f_303 : k_F [18, 19, 20, 21, 22, 23, 24, 26, 30] [(1, 1), (27, 5), (27, 10), (27, 11)] s s_303 := k_F.tr f_240 (k_F.mono g_303.1 rfl)
                      refine k_bd (q_Ma_headType d (by omega)  _) (fun s_304 x_304 g_304 => ?_)
                      obtain ⟨e_304, b_304⟩ := g_304
                      have e_304 := e_304.symm
                      subst e_304
                      refine k_bd (q_Ma_headTypeScope d (by omega)  _) (fun s_305 x_305 g_305 => ?_)
                      obtain ⟨e_305, b_305⟩ := g_305
                      have e_305 := e_305.symm
                      subst e_305
                      refine k_bd (q_Ma_row d (by omega)  _) (fun s_306 x_306 g_306 => ?_)
                      obtain ⟨e_306, b_306⟩ := g_306
                      have e_306 := e_306.symm
                      subst e_306
                      refine k_bd (hO _ _ _ _ _ _ (k_Jto (k_Jle hJ (g_231.2.2 h232)))) (fun s_307 x_307 g_307 => ?_)
                      have f_307 : k_F [18, 19, 20, 21, 22, 23, 24, 26, 30] [(1, 1), (27, 5), (27, 10), (27, 11)] s s_307 := k_F.tr f_303 (k_F.mono g_307.1 rfl)
                      refine k_if (fun h308 => ?_) (fun h308 => ?_)
                      ·
                        exact k_some ⟨f_307, k_b0⟩
                      ·
                        refine k_bd (q_Pa_put d (by omega) _ _) (fun s_309 x_309 g_309 => ?_)
                        have f_309 : k_F [18, 19, 20, 21, 22, 23, 24, 26, 30] [(1, 1), (27, 5), (27, 10), (27, 11)] s s_309 := k_F.tr f_307 (k_F.mono g_309.1 rfl)
                        exact k_some ⟨f_309, k_b0⟩
                    ·
                      refine k_if (fun h310 => ?_) (fun h310 => ?_)
                      ·
                        refine k_bd (q_Pa_put d (by omega) _ _) (fun s_311 x_311 g_311 => ?_)
                        have f_311 : k_F [18, 19, 20, 21, 22, 23, 24, 26, 30] [(1, 1), (27, 5), (27, 10), (27, 11)] s s_311 := k_F.tr f_240 (k_F.mono g_311.1 rfl)
                        rw [e_Wr_object_304]
                        refine k_bd (q_Ma_head d (by omega)  _) (fun s_312 x_312 g_312 => ?_)
                        obtain ⟨e_312, b_312⟩ := g_312
                        have e_312 := e_312.symm
                        subst e_312
                        refine k_bd (q_Wr_putHead d (by omega) _ _) (fun s_313 x_313 g_313 => ?_)
                        have f_313 : k_F [18, 19, 20, 21, 22, 23, 24, 26, 30] [(1, 1), (27, 5), (27, 10), (27, 11)] s s_313 := k_F.tr f_311 (k_F.mono g_313.1 rfl)
                        refine k_bd (q_Ma_headType d (by omega)  _) (fun s_314 x_314 g_314 => ?_)
                        obtain ⟨e_314, b_314⟩ := g_314
                        have e_314 := e_314.symm
                        subst e_314
                        refine k_bd (q_Ma_headTypeScope d (by omega)  _) (fun s_315 x_315 g_315 => ?_)
                        obtain ⟨e_315, b_315⟩ := g_315
                        have e_315 := e_315.symm
                        subst e_315
                        refine k_bd (q_Ma_row d (by omega)  _) (fun s_316 x_316 g_316 => ?_)
                        obtain ⟨e_316, b_316⟩ := g_316
                        have e_316 := e_316.symm
                        subst e_316
                        refine k_bd (hO _ _ _ _ _ _ (k_Jto (k_Jle hJ (g_231.2.2 h232)))) (fun s_317 x_317 g_317 => ?_)
                        have f_317 : k_F [18, 19, 20, 21, 22, 23, 24, 26, 30] [(1, 1), (27, 5), (27, 10), (27, 11)] s s_317 := k_F.tr f_313 (k_F.mono g_317.1 rfl)
                        refine k_if (fun h318 => ?_) (fun h318 => ?_)
                        ·
                          exact k_some ⟨f_317, k_b0⟩
                        ·
                          refine k_bd (q_Pa_put d (by omega) _ _) (fun s_319 x_319 g_319 => ?_)
                          have f_319 : k_F [18, 19, 20, 21, 22, 23, 24, 26, 30] [(1, 1), (27, 5), (27, 10), (27, 11)] s s_319 := k_F.tr f_317 (k_F.mono g_319.1 rfl)
                          exact k_some ⟨f_319, k_b0⟩
                      ·
                        rw [e_Wr_object_304]
                        refine k_bd (q_Ma_head d (by omega)  _) (fun s_320 x_320 g_320 => ?_)
                        obtain ⟨e_320, b_320⟩ := g_320
                        have e_320 := e_320.symm
                        subst e_320
                        refine k_bd (q_Wr_putHead d (by omega) _ _) (fun s_321 x_321 g_321 => ?_)
                        have f_321 : k_F [18, 19, 20, 21, 22, 23, 24, 26, 30] [(1, 1), (27, 5), (27, 10), (27, 11)] s s_321 := k_F.tr f_240 (k_F.mono g_321.1 rfl)
                        refine k_bd (q_Ma_headType d (by omega)  _) (fun s_322 x_322 g_322 => ?_)
                        obtain ⟨e_322, b_322⟩ := g_322
                        have e_322 := e_322.symm
                        subst e_322
                        refine k_bd (q_Ma_headTypeScope d (by omega)  _) (fun s_323 x_323 g_323 => ?_)
                        obtain ⟨e_323, b_323⟩ := g_323
                        have e_323 := e_323.symm
                        subst e_323
                        refine k_bd (q_Ma_row d (by omega)  _) (fun s_324 x_324 g_324 => ?_)
                        obtain ⟨e_324, b_324⟩ := g_324
                        have e_324 := e_324.symm
                        subst e_324
                        refine k_bd (hO _ _ _ _ _ _ (k_Jto (k_Jle hJ (g_231.2.2 h232)))) (fun s_325 x_325 g_325 => ?_)
                        have f_325 : k_F [18, 19, 20, 21, 22, 23, 24, 26, 30] [(1, 1), (27, 5), (27, 10), (27, 11)] s s_325 := k_F.tr f_321 (k_F.mono g_325.1 rfl)
                        refine k_if (fun h326 => ?_) (fun h326 => ?_)
                        ·
                          exact k_some ⟨f_325, k_b0⟩
                        ·
                          refine k_bd (q_Pa_put d (by omega) _ _) (fun s_327 x_327 g_327 => ?_)
                          have f_327 : k_F [18, 19, 20, 21, 22, 23, 24, 26, 30] [(1, 1), (27, 5), (27, 10), (27, 11)] s s_327 := k_F.tr f_325 (k_F.mono g_327.1 rfl)
                          exact k_some ⟨f_327, k_b0⟩
                ·
                  rw [e_Wr_object_283]
                  refine k_if (fun h328 => ?_) (fun h328 => ?_)
                  ·
                    rw [e_Wr_object_304]
                    refine k_bd (q_Ma_head d (by omega)  _) (fun s_329 x_329 g_329 => ?_)
                    obtain ⟨e_329, b_329⟩ := g_329
                    have e_329 := e_329.symm
                    subst e_329
                    refine k_bd (q_Wr_putHead d (by omega) _ _) (fun s_330 x_330 g_330 => ?_)
                    have f_330 : k_F [18, 19, 20, 21, 22, 23, 24, 26, 30] [(1, 1), (27, 5), (27, 10), (27, 11)] s s_330 := k_F.tr f_240 (k_F.mono g_330.1 rfl)
                    refine k_bd (q_Ma_headType d (by omega)  _) (fun s_331 x_331 g_331 => ?_)
                    obtain ⟨e_331, b_331⟩ := g_331
                    have e_331 := e_331.symm
                    subst e_331
                    refine k_bd (q_Ma_headTypeScope d (by omega)  _) (fun s_332 x_332 g_332 => ?_)
                    obtain ⟨e_332, b_332⟩ := g_332
                    have e_332 := e_332.symm
                    subst e_332
                    refine k_bd (q_Ma_row d (by omega)  _) (fun s_333 x_333 g_333 => ?_)
                    obtain ⟨e_333, b_333⟩ := g_333
                    have e_333 := e_333.symm
                    subst e_333
                    refine k_bd (hO _ _ _ _ _ _ (k_Jto (k_Jle hJ (g_231.2.2 h232)))) (fun s_334 x_334 g_334 => ?_)
                    have f_334 : k_F [18, 19, 20, 21, 22, 23, 24, 26, 30] [(1, 1), (27, 5), (27, 10), (27, 11)] s s_334 := k_F.tr f_330 (k_F.mono g_334.1 rfl)
                    refine k_if (fun h335 => ?_) (fun h335 => ?_)
                    ·
                      exact k_some ⟨f_334, k_b0⟩
                    ·
                      refine k_bd (q_Pa_put d (by omega) _ _) (fun s_336 x_336 g_336 => ?_)
                      have f_336 : k_F [18, 19, 20, 21, 22, 23, 24, 26, 30] [(1, 1), (27, 5), (27, 10), (27, 11)] s s_336 := k_F.tr f_334 (k_F.mono g_336.1 rfl)
                      exact k_some ⟨f_336, k_b0⟩
                  ·
                    refine k_if (fun h337 => ?_) (fun h337 => ?_)
                    ·
                      refine k_bd (q_Pa_put d (by omega) _ _) (fun s_338 x_338 g_338 => ?_)
                      have f_338 : k_F [18, 19, 20, 21, 22, 23, 24, 26, 30] [(1, 1), (27, 5), (27, 10), (27, 11)] s s_338 := k_F.tr f_240 (k_F.mono g_338.1 rfl)
                      rw [e_Wr_object_304]
                      refine k_bd (q_Ma_head d (by omega)  _) (fun s_339 x_339 g_339 => ?_)
                      obtain ⟨e_339, b_339⟩ := g_339
                      have e_339 := e_339.symm
                      subst e_339
                      refine k_bd (q_Wr_putHead d (by omega) _ _) (fun s_340 x_340 g_340 => ?_)
                      have f_340 : k_F [18, 19, 20, 21, 22, 23, 24, 26, 30] [(1, 1), (27, 5), (27, 10), (27, 11)] s s_340 := k_F.tr f_338 (k_F.mono g_340.1 rfl)
                      refine k_bd (q_Ma_headType d (by omega)  _) (fun s_341 x_341 g_341 => ?_)
                      obtain ⟨e_341, b_341⟩ := g_341
                      have e_341 := e_341.symm
                      subst e_341
                      refine k_bd (q_Ma_headTypeScope d (by omega)  _) (fun s_342 x_342 g_342 => ?_)
                      obtain ⟨e_342, b_342⟩ := g_342
                      have e_342 := e_342.symm
                      subst e_342
                      refine k_bd (q_Ma_row d (by omega)  _) (fun s_343 x_343 g_343 => ?_)
                      obtain ⟨e_343, b_343⟩ := g_343
                      have e_343 := e_343.symm
                      subst e_343
                      refine k_bd (hO _ _ _ _ _ _ (k_Jto (k_Jle hJ (g_231.2.2 h232)))) (fun s_344 x_344 g_344 => ?_)
                      have f_344 : k_F [18, 19, 20, 21, 22, 23, 24, 26, 30] [(1, 1), (27, 5), (27, 10), (27, 11)] s s_344 := k_F.tr f_340 (k_F.mono g_344.1 rfl)
                      refine k_if (fun h345 => ?_) (fun h345 => ?_)
                      ·
                        exact k_some ⟨f_344, k_b0⟩
                      ·
                        refine k_bd (q_Pa_put d (by omega) _ _) (fun s_346 x_346 g_346 => ?_)
                        have f_346 : k_F [18, 19, 20, 21, 22, 23, 24, 26, 30] [(1, 1), (27, 5), (27, 10), (27, 11)] s s_346 := k_F.tr f_344 (k_F.mono g_346.1 rfl)
                        exact k_some ⟨f_346, k_b0⟩
                    ·
                      rw [e_Wr_object_304]
                      refine k_bd (q_Ma_head d (by omega)  _) (fun s_347 x_347 g_347 => ?_)
                      obtain ⟨e_347, b_347⟩ := g_347
                      have e_347 := e_347.symm
                      subst e_347
                      refine k_bd (q_Wr_putHead d (by omega) _ _) (fun s_348 x_348 g_348 => ?_)
                      have f_348 : k_F [18, 19, 20, 21, 22, 23, 24, 26, 30] [(1, 1), (27, 5), (27, 10), (27, 11)] s s_348 := k_F.tr f_240 (k_F.mono g_348.1 rfl)
                      refine k_bd (q_Ma_headType d (by omega)  _) (fun s_349 x_349 g_349 => ?_)
                      obtain ⟨e_349, b_349⟩ := g_349
                      have e_349 := e_349.symm
                      subst e_349
                      refine k_bd (q_Ma_headTypeScope d (by omega)  _) (fun s_350 x_350 g_350 => ?_)
                      obtain ⟨e_350, b_350⟩ := g_350
                      have e_350 := e_350.symm
                      subst e_350
                      refine k_bd (q_Ma_row d (by omega)  _) (fun s_351 x_351 g_351 => ?_)
                      obtain ⟨e_351, b_351⟩ := g_351
                      have e_351 := e_351.symm
                      subst e_351
                      refine k_bd (hO _ _ _ _ _ _ (k_Jto (k_Jle hJ (g_231.2.2 h232)))) (fun s_352 x_352 g_352 => ?_)
                      have f_352 : k_F [18, 19, 20, 21, 22, 23, 24, 26, 30] [(1, 1), (27, 5), (27, 10), (27, 11)] s s_352 := k_F.tr f_348 (k_F.mono g_352.1 rfl)
                      refine k_if (fun h353 => ?_) (fun h353 => ?_)
                      ·
                        exact k_some ⟨f_352, k_b0⟩
                      ·
                        refine k_bd (q_Pa_put d (by omega) _ _) (fun s_354 x_354 g_354 => ?_)
                        have f_354 : k_F [18, 19, 20, 21, 22, 23, 24, 26, 30] [(1, 1), (27, 5), (27, 10), (27, 11)] s s_354 := k_F.tr f_352 (k_F.mono g_354.1 rfl)
                        exact k_some ⟨f_354, k_b0⟩
            ·
              rw [e_Wr_object_256]
              refine k_if (fun h355 => ?_) (fun h355 => ?_)
              ·
                rw [e_Wr_object_283]
                refine k_if (fun h356 => ?_) (fun h356 => ?_)
                ·
                  rw [e_Wr_object_304]
                  refine k_bd (q_Ma_head d (by omega)  _) (fun s_357 x_357 g_357 => ?_)
                  obtain ⟨e_357, b_357⟩ := g_357
                  have e_357 := e_357.symm
                  subst e_357
                  refine k_bd (q_Wr_putHead d (by omega) _ _) (fun s_358 x_358 g_358 => ?_)
                  have f_358 : k_F [18, 19, 20, 21, 22, 23, 24, 26, 30] [(1, 1), (27, 5), (27, 10), (27, 11)] s s_358 := k_F.tr f_240 (k_F.mono g_358.1 rfl)
                  refine k_bd (q_Ma_headType d (by omega)  _) (fun s_359 x_359 g_359 => ?_)
                  obtain ⟨e_359, b_359⟩ := g_359
                  have e_359 := e_359.symm
                  subst e_359
                  refine k_bd (q_Ma_headTypeScope d (by omega)  _) (fun s_360 x_360 g_360 => ?_)
                  obtain ⟨e_360, b_360⟩ := g_360
                  have e_360 := e_360.symm
                  subst e_360
                  refine k_bd (q_Ma_row d (by omega)  _) (fun s_361 x_361 g_361 => ?_)
                  obtain ⟨e_361, b_361⟩ := g_361
                  have e_361 := e_361.symm
                  subst e_361
                  refine k_bd (hO _ _ _ _ _ _ (k_Jto (k_Jle hJ (g_231.2.2 h232)))) (fun s_362 x_362 g_362 => ?_)
                  have f_362 : k_F [18, 19, 20, 21, 22, 23, 24, 26, 30] [(1, 1), (27, 5), (27, 10), (27, 11)] s s_362 := k_F.tr f_358 (k_F.mono g_362.1 rfl)
                  refine k_if (fun h363 => ?_) (fun h363 => ?_)
                  ·
                    exact k_some ⟨f_362, k_b0⟩
                  ·
                    refine k_bd (q_Pa_put d (by omega) _ _) (fun s_364 x_364 g_364 => ?_)
                    have f_364 : k_F [18, 19, 20, 21, 22, 23, 24, 26, 30] [(1, 1), (27, 5), (27, 10), (27, 11)] s s_364 := k_F.tr f_362 (k_F.mono g_364.1 rfl)
                    exact k_some ⟨f_364, k_b0⟩
                ·
                  refine k_if (fun h365 => ?_) (fun h365 => ?_)
                  ·
                    refine k_bd (q_Pa_put d (by omega) _ _) (fun s_366 x_366 g_366 => ?_)
                    have f_366 : k_F [18, 19, 20, 21, 22, 23, 24, 26, 30] [(1, 1), (27, 5), (27, 10), (27, 11)] s s_366 := k_F.tr f_240 (k_F.mono g_366.1 rfl)
                    rw [e_Wr_object_304]
                    refine k_bd (q_Ma_head d (by omega)  _) (fun s_367 x_367 g_367 => ?_)
                    obtain ⟨e_367, b_367⟩ := g_367
                    have e_367 := e_367.symm
                    subst e_367
                    refine k_bd (q_Wr_putHead d (by omega) _ _) (fun s_368 x_368 g_368 => ?_)
                    have f_368 : k_F [18, 19, 20, 21, 22, 23, 24, 26, 30] [(1, 1), (27, 5), (27, 10), (27, 11)] s s_368 := k_F.tr f_366 (k_F.mono g_368.1 rfl)
                    refine k_bd (q_Ma_headType d (by omega)  _) (fun s_369 x_369 g_369 => ?_)
                    obtain ⟨e_369, b_369⟩ := g_369
                    have e_369 := e_369.symm
                    subst e_369
                    refine k_bd (q_Ma_headTypeScope d (by omega)  _) (fun s_370 x_370 g_370 => ?_)
                    obtain ⟨e_370, b_370⟩ := g_370
                    have e_370 := e_370.symm
                    subst e_370
                    refine k_bd (q_Ma_row d (by omega)  _) (fun s_371 x_371 g_371 => ?_)
                    obtain ⟨e_371, b_371⟩ := g_371
                    have e_371 := e_371.symm
                    subst e_371
                    refine k_bd (hO _ _ _ _ _ _ (k_Jto (k_Jle hJ (g_231.2.2 h232)))) (fun s_372 x_372 g_372 => ?_)
                    have f_372 : k_F [18, 19, 20, 21, 22, 23, 24, 26, 30] [(1, 1), (27, 5), (27, 10), (27, 11)] s s_372 := k_F.tr f_368 (k_F.mono g_372.1 rfl)
                    refine k_if (fun h373 => ?_) (fun h373 => ?_)
                    ·
                      exact k_some ⟨f_372, k_b0⟩
                    ·
                      refine k_bd (q_Pa_put d (by omega) _ _) (fun s_374 x_374 g_374 => ?_)
                      have f_374 : k_F [18, 19, 20, 21, 22, 23, 24, 26, 30] [(1, 1), (27, 5), (27, 10), (27, 11)] s s_374 := k_F.tr f_372 (k_F.mono g_374.1 rfl)
                      exact k_some ⟨f_374, k_b0⟩
                  ·
                    rw [e_Wr_object_304]
                    refine k_bd (q_Ma_head d (by omega)  _) (fun s_375 x_375 g_375 => ?_)
                    obtain ⟨e_375, b_375⟩ := g_375
                    have e_375 := e_375.symm
                    subst e_375
                    refine k_bd (q_Wr_putHead d (by omega) _ _) (fun s_376 x_376 g_376 => ?_)
                    have f_376 : k_F [18, 19, 20, 21, 22, 23, 24, 26, 30] [(1, 1), (27, 5), (27, 10), (27, 11)] s s_376 := k_F.tr f_240 (k_F.mono g_376.1 rfl)
                    refine k_bd (q_Ma_headType d (by omega)  _) (fun s_377 x_377 g_377 => ?_)
                    obtain ⟨e_377, b_377⟩ := g_377
                    have e_377 := e_377.symm
                    subst e_377
                    refine k_bd (q_Ma_headTypeScope d (by omega)  _) (fun s_378 x_378 g_378 => ?_)
                    obtain ⟨e_378, b_378⟩ := g_378
                    have e_378 := e_378.symm
                    subst e_378
                    refine k_bd (q_Ma_row d (by omega)  _) (fun s_379 x_379 g_379 => ?_)
                    obtain ⟨e_379, b_379⟩ := g_379
                    have e_379 := e_379.symm
                    subst e_379
                    refine k_bd (hO _ _ _ _ _ _ (k_Jto (k_Jle hJ (g_231.2.2 h232)))) (fun s_380 x_380 g_380 => ?_)
                    have f_380 : k_F [18, 19, 20, 21, 22, 23, 24, 26, 30] [(1, 1), (27, 5), (27, 10), (27, 11)] s s_380 := k_F.tr f_376 (k_F.mono g_380.1 rfl)
                    refine k_if (fun h381 => ?_) (fun h381 => ?_)
                    ·
                      exact k_some ⟨f_380, k_b0⟩
                    ·
                      refine k_bd (q_Pa_put d (by omega) _ _) (fun s_382 x_382 g_382 => ?_)
                      have f_382 : k_F [18, 19, 20, 21, 22, 23, 24, 26, 30] [(1, 1), (27, 5), (27, 10), (27, 11)] s s_382 := k_F.tr f_380 (k_F.mono g_382.1 rfl)
                      exact k_some ⟨f_382, k_b0⟩
              ·
                refine k_if (fun h383 => ?_) (fun h383 => ?_)
                ·
                  refine k_bd (q_Ma_row d (by omega)  _) (fun s_384 x_384 g_384 => ?_)
                  obtain ⟨e_384, b_384⟩ := g_384
                  have e_384 := e_384.symm
                  subst e_384
                  refine k_if (fun h385 => ?_) (fun h385 => ?_)
                  ·
                    rw [e_Wr_object_283]
                    refine k_if (fun h386 => ?_) (fun h386 => ?_)
                    ·
                      rw [e_Wr_object_304]
                      refine k_bd (q_Ma_head d (by omega)  _) (fun s_387 x_387 g_387 => ?_)
                      obtain ⟨e_387, b_387⟩ := g_387
                      have e_387 := e_387.symm
                      subst e_387
                      refine k_bd (q_Wr_putHead d (by omega) _ _) (fun s_388 x_388 g_388 => ?_)
                      have f_388 : k_F [18, 19, 20, 21, 22, 23, 24, 26, 30] [(1, 1), (27, 5), (27, 10), (27, 11)] s s_388 := k_F.tr f_240 (k_F.mono g_388.1 rfl)
                      refine k_bd (q_Ma_headType d (by omega)  _) (fun s_389 x_389 g_389 => ?_)
                      obtain ⟨e_389, b_389⟩ := g_389
                      have e_389 := e_389.symm
                      subst e_389
                      refine k_bd (q_Ma_headTypeScope d (by omega)  _) (fun s_390 x_390 g_390 => ?_)
                      obtain ⟨e_390, b_390⟩ := g_390
                      have e_390 := e_390.symm
                      subst e_390
                      refine k_bd (q_Ma_row d (by omega)  _) (fun s_391 x_391 g_391 => ?_)
                      obtain ⟨e_391, b_391⟩ := g_391
                      have e_391 := e_391.symm
                      subst e_391
                      refine k_bd (hO _ _ _ _ _ _ (k_Jto (k_Jle hJ (g_231.2.2 h232)))) (fun s_392 x_392 g_392 => ?_)
                      have f_392 : k_F [18, 19, 20, 21, 22, 23, 24, 26, 30] [(1, 1), (27, 5), (27, 10), (27, 11)] s s_392 := k_F.tr f_388 (k_F.mono g_392.1 rfl)
                      refine k_if (fun h393 => ?_) (fun h393 => ?_)
                      ·
                        exact k_some ⟨f_392, k_b0⟩
                      ·
                        refine k_bd (q_Pa_put d (by omega) _ _) (fun s_394 x_394 g_394 => ?_)
                        have f_394 : k_F [18, 19, 20, 21, 22, 23, 24, 26, 30] [(1, 1), (27, 5), (27, 10), (27, 11)] s s_394 := k_F.tr f_392 (k_F.mono g_394.1 rfl)
                        exact k_some ⟨f_394, k_b0⟩
                    ·
                      refine k_if (fun h395 => ?_) (fun h395 => ?_)
                      ·
                        refine k_bd (q_Pa_put d (by omega) _ _) (fun s_396 x_396 g_396 => ?_)
                        have f_396 : k_F [18, 19, 20, 21, 22, 23, 24, 26, 30] [(1, 1), (27, 5), (27, 10), (27, 11)] s s_396 := k_F.tr f_240 (k_F.mono g_396.1 rfl)
                        rw [e_Wr_object_304]
                        refine k_bd (q_Ma_head d (by omega)  _) (fun s_397 x_397 g_397 => ?_)
                        obtain ⟨e_397, b_397⟩ := g_397
                        have e_397 := e_397.symm
                        subst e_397
                        refine k_bd (q_Wr_putHead d (by omega) _ _) (fun s_398 x_398 g_398 => ?_)
                        have f_398 : k_F [18, 19, 20, 21, 22, 23, 24, 26, 30] [(1, 1), (27, 5), (27, 10), (27, 11)] s s_398 := k_F.tr f_396 (k_F.mono g_398.1 rfl)
                        refine k_bd (q_Ma_headType d (by omega)  _) (fun s_399 x_399 g_399 => ?_)
                        obtain ⟨e_399, b_399⟩ := g_399
                        have e_399 := e_399.symm
                        subst e_399
                        refine k_bd (q_Ma_headTypeScope d (by omega)  _) (fun s_400 x_400 g_400 => ?_)
                        obtain ⟨e_400, b_400⟩ := g_400
                        have e_400 := e_400.symm
                        subst e_400
                        refine k_bd (q_Ma_row d (by omega)  _) (fun s_401 x_401 g_401 => ?_)
                        obtain ⟨e_401, b_401⟩ := g_401
                        have e_401 := e_401.symm
                        subst e_401
                        refine k_bd (hO _ _ _ _ _ _ (k_Jto (k_Jle hJ (g_231.2.2 h232)))) (fun s_402 x_402 g_402 => ?_)
                        have f_402 : k_F [18, 19, 20, 21, 22, 23, 24, 26, 30] [(1, 1), (27, 5), (27, 10), (27, 11)] s s_402 := k_F.tr f_398 (k_F.mono g_402.1 rfl)
                        refine k_if (fun h403 => ?_) (fun h403 => ?_)
                        ·
                          exact k_some ⟨f_402, k_b0⟩
                        ·
                          refine k_bd (q_Pa_put d (by omega) _ _) (fun s_404 x_404 g_404 => ?_)
                          have f_404 : k_F [18, 19, 20, 21, 22, 23, 24, 26, 30] [(1, 1), (27, 5), (27, 10), (27, 11)] s s_404 := k_F.tr f_402 (k_F.mono g_404.1 rfl)
                          exact k_some ⟨f_404, k_b0⟩
                      ·
                        rw [e_Wr_object_304]
                        refine k_bd (q_Ma_head d (by omega)  _) (fun s_405 x_405 g_405 => ?_)
                        obtain ⟨e_405, b_405⟩ := g_405
                        have e_405 := e_405.symm
                        subst e_405
                        refine k_bd (q_Wr_putHead d (by omega) _ _) (fun s_406 x_406 g_406 => ?_)
                        have f_406 : k_F [18, 19, 20, 21, 22, 23, 24, 26, 30] [(1, 1), (27, 5), (27, 10), (27, 11)] s s_406 := k_F.tr f_240 (k_F.mono g_406.1 rfl)
                        refine k_bd (q_Ma_headType d (by omega)  _) (fun s_407 x_407 g_407 => ?_)
                        obtain ⟨e_407, b_407⟩ := g_407
                        have e_407 := e_407.symm
                        subst e_407
                        refine k_bd (q_Ma_headTypeScope d (by omega)  _) (fun s_408 x_408 g_408 => ?_)
                        obtain ⟨e_408, b_408⟩ := g_408
                        have e_408 := e_408.symm
                        subst e_408
                        refine k_bd (q_Ma_row d (by omega)  _) (fun s_409 x_409 g_409 => ?_)
                        obtain ⟨e_409, b_409⟩ := g_409
                        have e_409 := e_409.symm
                        subst e_409
                        refine k_bd (hO _ _ _ _ _ _ (k_Jto (k_Jle hJ (g_231.2.2 h232)))) (fun s_410 x_410 g_410 => ?_)
                        have f_410 : k_F [18, 19, 20, 21, 22, 23, 24, 26, 30] [(1, 1), (27, 5), (27, 10), (27, 11)] s s_410 := k_F.tr f_406 (k_F.mono g_410.1 rfl)
                        refine k_if (fun h411 => ?_) (fun h411 => ?_)
                        ·
                          exact k_some ⟨f_410, k_b0⟩
                        ·
                          refine k_bd (q_Pa_put d (by omega) _ _) (fun s_412 x_412 g_412 => ?_)
                          have f_412 : k_F [18, 19, 20, 21, 22, 23, 24, 26, 30] [(1, 1), (27, 5), (27, 10), (27, 11)] s s_412 := k_F.tr f_410 (k_F.mono g_412.1 rfl)
                          exact k_some ⟨f_412, k_b0⟩
                  ·
                    rw [e_Wr_object_283]
                    refine k_if (fun h413 => ?_) (fun h413 => ?_)
                    ·
                      rw [e_Wr_object_304]
                      refine k_bd (q_Ma_head d (by omega)  _) (fun s_414 x_414 g_414 => ?_)
                      obtain ⟨e_414, b_414⟩ := g_414
                      have e_414 := e_414.symm
                      subst e_414
                      refine k_bd (q_Wr_putHead d (by omega) _ _) (fun s_415 x_415 g_415 => ?_)
                      have f_415 : k_F [18, 19, 20, 21, 22, 23, 24, 26, 30] [(1, 1), (27, 5), (27, 10), (27, 11)] s s_415 := k_F.tr f_240 (k_F.mono g_415.1 rfl)
                      refine k_bd (q_Ma_headType d (by omega)  _) (fun s_416 x_416 g_416 => ?_)
                      obtain ⟨e_416, b_416⟩ := g_416
                      have e_416 := e_416.symm
                      subst e_416
                      refine k_bd (q_Ma_headTypeScope d (by omega)  _) (fun s_417 x_417 g_417 => ?_)
                      obtain ⟨e_417, b_417⟩ := g_417
                      have e_417 := e_417.symm
                      subst e_417
                      refine k_bd (q_Ma_row d (by omega)  _) (fun s_418 x_418 g_418 => ?_)
                      obtain ⟨e_418, b_418⟩ := g_418
                      have e_418 := e_418.symm
                      subst e_418
                      refine k_bd (hO _ _ _ _ _ _ (k_Jto (k_Jle hJ (g_231.2.2 h232)))) (fun s_419 x_419 g_419 => ?_)
                      have f_419 : k_F [18, 19, 20, 21, 22, 23, 24, 26, 30] [(1, 1), (27, 5), (27, 10), (27, 11)] s s_419 := k_F.tr f_415 (k_F.mono g_419.1 rfl)
                      refine k_if (fun h420 => ?_) (fun h420 => ?_)
                      ·
                        exact k_some ⟨f_419, k_b0⟩
                      ·
                        refine k_bd (q_Pa_put d (by omega) _ _) (fun s_421 x_421 g_421 => ?_)
                        have f_421 : k_F [18, 19, 20, 21, 22, 23, 24, 26, 30] [(1, 1), (27, 5), (27, 10), (27, 11)] s s_421 := k_F.tr f_419 (k_F.mono g_421.1 rfl)
                        exact k_some ⟨f_421, k_b0⟩
                    ·
                      refine k_if (fun h422 => ?_) (fun h422 => ?_)
                      ·
                        refine k_bd (q_Pa_put d (by omega) _ _) (fun s_423 x_423 g_423 => ?_)
                        have f_423 : k_F [18, 19, 20, 21, 22, 23, 24, 26, 30] [(1, 1), (27, 5), (27, 10), (27, 11)] s s_423 := k_F.tr f_240 (k_F.mono g_423.1 rfl)
                        rw [e_Wr_object_304]
                        refine k_bd (q_Ma_head d (by omega)  _) (fun s_424 x_424 g_424 => ?_)
                        obtain ⟨e_424, b_424⟩ := g_424
                        have e_424 := e_424.symm
                        subst e_424
                        refine k_bd (q_Wr_putHead d (by omega) _ _) (fun s_425 x_425 g_425 => ?_)
                        have f_425 : k_F [18, 19, 20, 21, 22, 23, 24, 26, 30] [(1, 1), (27, 5), (27, 10), (27, 11)] s s_425 := k_F.tr f_423 (k_F.mono g_425.1 rfl)
                        refine k_bd (q_Ma_headType d (by omega)  _) (fun s_426 x_426 g_426 => ?_)
                        obtain ⟨e_426, b_426⟩ := g_426
                        have e_426 := e_426.symm
                        subst e_426
                        refine k_bd (q_Ma_headTypeScope d (by omega)  _) (fun s_427 x_427 g_427 => ?_)
                        obtain ⟨e_427, b_427⟩ := g_427
                        have e_427 := e_427.symm
                        subst e_427
                        refine k_bd (q_Ma_row d (by omega)  _) (fun s_428 x_428 g_428 => ?_)
                        obtain ⟨e_428, b_428⟩ := g_428
                        have e_428 := e_428.symm
                        subst e_428
                        refine k_bd (hO _ _ _ _ _ _ (k_Jto (k_Jle hJ (g_231.2.2 h232)))) (fun s_429 x_429 g_429 => ?_)
                        have f_429 : k_F [18, 19, 20, 21, 22, 23, 24, 26, 30] [(1, 1), (27, 5), (27, 10), (27, 11)] s s_429 := k_F.tr f_425 (k_F.mono g_429.1 rfl)
                        refine k_if (fun h430 => ?_) (fun h430 => ?_)
                        ·
                          exact k_some ⟨f_429, k_b0⟩
                        ·
                          refine k_bd (q_Pa_put d (by omega) _ _) (fun s_431 x_431 g_431 => ?_)
                          have f_431 : k_F [18, 19, 20, 21, 22, 23, 24, 26, 30] [(1, 1), (27, 5), (27, 10), (27, 11)] s s_431 := k_F.tr f_429 (k_F.mono g_431.1 rfl)
                          exact k_some ⟨f_431, k_b0⟩
                      ·
                        rw [e_Wr_object_304]
                        refine k_bd (q_Ma_head d (by omega)  _) (fun s_432 x_432 g_432 => ?_)
                        obtain ⟨e_432, b_432⟩ := g_432
                        have e_432 := e_432.symm
                        subst e_432
                        refine k_bd (q_Wr_putHead d (by omega) _ _) (fun s_433 x_433 g_433 => ?_)
                        have f_433 : k_F [18, 19, 20, 21, 22, 23, 24, 26, 30] [(1, 1), (27, 5), (27, 10), (27, 11)] s s_433 := k_F.tr f_240 (k_F.mono g_433.1 rfl)
                        refine k_bd (q_Ma_headType d (by omega)  _) (fun s_434 x_434 g_434 => ?_)
                        obtain ⟨e_434, b_434⟩ := g_434
                        have e_434 := e_434.symm
                        subst e_434
                        refine k_bd (q_Ma_headTypeScope d (by omega)  _) (fun s_435 x_435 g_435 => ?_)
                        obtain ⟨e_435, b_435⟩ := g_435
                        have e_435 := e_435.symm
                        subst e_435
                        refine k_bd (q_Ma_row d (by omega)  _) (fun s_436 x_436 g_436 => ?_)
                        obtain ⟨e_436, b_436⟩ := g_436
                        have e_436 := e_436.symm
                        subst e_436
                        refine k_bd (hO _ _ _ _ _ _ (k_Jto (k_Jle hJ (g_231.2.2 h232)))) (fun s_437 x_437 g_437 => ?_)
                        have f_437 : k_F [18, 19, 20, 21, 22, 23, 24, 26, 30] [(1, 1), (27, 5), (27, 10), (27, 11)] s s_437 := k_F.tr f_433 (k_F.mono g_437.1 rfl)
                        refine k_if (fun h438 => ?_) (fun h438 => ?_)
                        ·
                          exact k_some ⟨f_437, k_b0⟩
                        ·
                          refine k_bd (q_Pa_put d (by omega) _ _) (fun s_439 x_439 g_439 => ?_)
                          have f_439 : k_F [18, 19, 20, 21, 22, 23, 24, 26, 30] [(1, 1), (27, 5), (27, 10), (27, 11)] s s_439 := k_F.tr f_437 (k_F.mono g_439.1 rfl)
                          exact k_some ⟨f_439, k_b0⟩
                ·
                  rw [e_Wr_object_283]
                  refine k_if (fun h440 => ?_) (fun h440 => ?_)
                  ·
                    rw [e_Wr_object_304]
                    refine k_bd (q_Ma_head d (by omega)  _) (fun s_441 x_441 g_441 => ?_)
                    obtain ⟨e_441, b_441⟩ := g_441
                    have e_441 := e_441.symm
                    subst e_441
                    refine k_bd (q_Wr_putHead d (by omega) _ _) (fun s_442 x_442 g_442 => ?_)
                    have f_442 : k_F [18, 19, 20, 21, 22, 23, 24, 26, 30] [(1, 1), (27, 5), (27, 10), (27, 11)] s s_442 := k_F.tr f_240 (k_F.mono g_442.1 rfl)
                    refine k_bd (q_Ma_headType d (by omega)  _) (fun s_443 x_443 g_443 => ?_)
                    obtain ⟨e_443, b_443⟩ := g_443
                    have e_443 := e_443.symm
                    subst e_443
                    refine k_bd (q_Ma_headTypeScope d (by omega)  _) (fun s_444 x_444 g_444 => ?_)
                    obtain ⟨e_444, b_444⟩ := g_444
                    have e_444 := e_444.symm
                    subst e_444
                    refine k_bd (q_Ma_row d (by omega)  _) (fun s_445 x_445 g_445 => ?_)
                    obtain ⟨e_445, b_445⟩ := g_445
                    have e_445 := e_445.symm
                    subst e_445
                    refine k_bd (hO _ _ _ _ _ _ (k_Jto (k_Jle hJ (g_231.2.2 h232)))) (fun s_446 x_446 g_446 => ?_)
                    have f_446 : k_F [18, 19, 20, 21, 22, 23, 24, 26, 30] [(1, 1), (27, 5), (27, 10), (27, 11)] s s_446 := k_F.tr f_442 (k_F.mono g_446.1 rfl)
                    refine k_if (fun h447 => ?_) (fun h447 => ?_)
                    ·
                      exact k_some ⟨f_446, k_b0⟩
                    ·
                      refine k_bd (q_Pa_put d (by omega) _ _) (fun s_448 x_448 g_448 => ?_)
                      have f_448 : k_F [18, 19, 20, 21, 22, 23, 24, 26, 30] [(1, 1), (27, 5), (27, 10), (27, 11)] s s_448 := k_F.tr f_446 (k_F.mono g_448.1 rfl)
                      exact k_some ⟨f_448, k_b0⟩
                  ·
                    refine k_if (fun h449 => ?_) (fun h449 => ?_)
                    ·
                      refine k_bd (q_Pa_put d (by omega) _ _) (fun s_450 x_450 g_450 => ?_)
                      have f_450 : k_F [18, 19, 20, 21, 22, 23, 24, 26, 30] [(1, 1), (27, 5), (27, 10), (27, 11)] s s_450 := k_F.tr f_240 (k_F.mono g_450.1 rfl)
                      rw [e_Wr_object_304]
                      refine k_bd (q_Ma_head d (by omega)  _) (fun s_451 x_451 g_451 => ?_)
                      obtain ⟨e_451, b_451⟩ := g_451
                      have e_451 := e_451.symm
                      subst e_451
                      refine k_bd (q_Wr_putHead d (by omega) _ _) (fun s_452 x_452 g_452 => ?_)
                      have f_452 : k_F [18, 19, 20, 21, 22, 23, 24, 26, 30] [(1, 1), (27, 5), (27, 10), (27, 11)] s s_452 := k_F.tr f_450 (k_F.mono g_452.1 rfl)
                      refine k_bd (q_Ma_headType d (by omega)  _) (fun s_453 x_453 g_453 => ?_)
                      obtain ⟨e_453, b_453⟩ := g_453
                      have e_453 := e_453.symm
                      subst e_453
                      refine k_bd (q_Ma_headTypeScope d (by omega)  _) (fun s_454 x_454 g_454 => ?_)
                      obtain ⟨e_454, b_454⟩ := g_454
                      have e_454 := e_454.symm
                      subst e_454
                      refine k_bd (q_Ma_row d (by omega)  _) (fun s_455 x_455 g_455 => ?_)
                      obtain ⟨e_455, b_455⟩ := g_455
                      have e_455 := e_455.symm
                      subst e_455
                      refine k_bd (hO _ _ _ _ _ _ (k_Jto (k_Jle hJ (g_231.2.2 h232)))) (fun s_456 x_456 g_456 => ?_)
                      have f_456 : k_F [18, 19, 20, 21, 22, 23, 24, 26, 30] [(1, 1), (27, 5), (27, 10), (27, 11)] s s_456 := k_F.tr f_452 (k_F.mono g_456.1 rfl)
                      refine k_if (fun h457 => ?_) (fun h457 => ?_)
                      ·
                        exact k_some ⟨f_456, k_b0⟩
                      ·
                        refine k_bd (q_Pa_put d (by omega) _ _) (fun s_458 x_458 g_458 => ?_)
                        have f_458 : k_F [18, 19, 20, 21, 22, 23, 24, 26, 30] [(1, 1), (27, 5), (27, 10), (27, 11)] s s_458 := k_F.tr f_456 (k_F.mono g_458.1 rfl)
                        exact k_some ⟨f_458, k_b0⟩
                    ·
                      rw [e_Wr_object_304]
                      refine k_bd (q_Ma_head d (by omega)  _) (fun s_459 x_459 g_459 => ?_)
                      obtain ⟨e_459, b_459⟩ := g_459
                      have e_459 := e_459.symm
                      subst e_459
                      refine k_bd (q_Wr_putHead d (by omega) _ _) (fun s_460 x_460 g_460 => ?_)
                      have f_460 : k_F [18, 19, 20, 21, 22, 23, 24, 26, 30] [(1, 1), (27, 5), (27, 10), (27, 11)] s s_460 := k_F.tr f_240 (k_F.mono g_460.1 rfl)
                      refine k_bd (q_Ma_headType d (by omega)  _) (fun s_461 x_461 g_461 => ?_)
                      obtain ⟨e_461, b_461⟩ := g_461
                      have e_461 := e_461.symm
                      subst e_461
                      refine k_bd (q_Ma_headTypeScope d (by omega)  _) (fun s_462 x_462 g_462 => ?_)
                      obtain ⟨e_462, b_462⟩ := g_462
                      have e_462 := e_462.symm
                      subst e_462
                      refine k_bd (q_Ma_row d (by omega)  _) (fun s_463 x_463 g_463 => ?_)
                      obtain ⟨e_463, b_463⟩ := g_463
                      have e_463 := e_463.symm
                      subst e_463
                      refine k_bd (hO _ _ _ _ _ _ (k_Jto (k_Jle hJ (g_231.2.2 h232)))) (fun s_464 x_464 g_464 => ?_)
                      have f_464 : k_F [18, 19, 20, 21, 22, 23, 24, 26, 30] [(1, 1), (27, 5), (27, 10), (27, 11)] s s_464 := k_F.tr f_460 (k_F.mono g_464.1 rfl)
                      refine k_if (fun h465 => ?_) (fun h465 => ?_)
                      ·
                        exact k_some ⟨f_464, k_b0⟩
                      ·
                        refine k_bd (q_Pa_put d (by omega) _ _) (fun s_466 x_466 g_466 => ?_)
                        have f_466 : k_F [18, 19, 20, 21, 22, 23, 24, 26, 30] [(1, 1), (27, 5), (27, 10), (27, 11)] s s_466 := k_F.tr f_464 (k_F.mono g_466.1 rfl)
                        exact k_some ⟨f_466, k_b0⟩
        ·
          refine k_if (fun h467 => ?_) (fun h467 => ?_)
          ·
            rw [e_Wr_object_103]
            refine k_bd (q_Pa_put d (by omega) _ _) (fun s_468 x_468 g_468 => ?_)
            have f_468 : k_F [18, 19, 20, 21, 22, 23, 24, 26, 30] [(1, 1), (27, 5), (27, 10), (27, 11)] s s_468 := k_F.tr f_233 (k_F.mono g_468.1 rfl)
            refine k_bd (q_No_left d (by omega) _ _) (fun s_469 x_469 g_469 => ?_)
            obtain ⟨e_469, b_469⟩ := g_469
            have e_469 := e_469.symm
            subst e_469
            refine k_bd (hB _ _ _ _ _ (k_Jto (k_Jle hJ (g_231.2.2 h232)))) (fun s_470 x_470 g_470 => ?_)
            have f_470 : k_F [18, 19, 20, 21, 22, 23, 24, 26, 30] [(1, 1), (27, 5), (27, 10), (27, 11)] s s_470 := k_F.tr f_468 (k_F.mono g_470.1 rfl)
            refine k_bd (q_Pa_put d (by omega) _ _) (fun s_471 x_471 g_471 => ?_)
            have f_471 : k_F [18, 19, 20, 21, 22, 23, 24, 26, 30] [(1, 1), (27, 5), (27, 10), (27, 11)] s s_471 := k_F.tr f_470 (k_F.mono g_471.1 rfl)
            refine k_bd (q_No_left d (by omega) _ _) (fun s_472 x_472 g_472 => ?_)
            obtain ⟨e_472, b_472⟩ := g_472
            have e_472 := e_472.symm
            subst e_472
            refine k_bd (q_Ce_newVariable d (by omega) _ _ _ _) (fun s_473 x_473 g_473 => ?_)
            have f_473 : k_F [18, 19, 20, 21, 22, 23, 24, 26, 30] [(1, 1), (27, 5), (27, 10), (27, 11)] s s_473 := k_F.tr f_471 (k_F.mono g_473.1 rfl)
            refine k_bd (q_Ce_append d (by omega) _ _ _) (fun s_474 x_474 g_474 => ?_)
            have f_474 : k_F [18, 19, 20, 21, 22, 23, 24, 26, 30] [(1, 1), (27, 5), (27, 10), (27, 11)] s s_474 := k_F.tr f_473 (k_F.mono g_474.1 rfl)
            rw [e_Wr_object_177]
            refine k_bd (q_Ce_enter d (by omega) _ _ _ _) (fun s_475 x_475 g_475 => ?_)
            have f_475 : k_F [18, 19, 20, 21, 22, 23, 24, 26, 30] [(1, 1), (27, 5), (27, 10), (27, 11)] s s_475 := k_F.tr f_474 (k_F.mono g_475.1 rfl)
            refine k_bd (q_No_right d (by omega) _ _) (fun s_476 x_476 g_476 => ?_)
            obtain ⟨e_476, b_476⟩ := g_476
            have e_476 := e_476.symm
            subst e_476
            rw [e_Wr_object_209]
            exact k_mono (q_Wr_object_20 d hd D hB hO n _ _ _ _ _ _ _ _ _ _ (k_Jup hJ (g_231.2.2 h232)) (k_upn h1 (by decide) hn)) (fun σ r g => ⟨k_F.tr f_475 g.1, g.2⟩)
          ·
            refine k_if (fun h477 => ?_) (fun h477 => ?_)
            ·
              refine k_bd (q_Pa_put d (by omega) _ _) (fun s_478 x_478 g_478 => ?_)
              have f_478 : k_F [18, 19, 20, 21, 22, 23, 24, 26, 30] [(1, 1), (27, 5), (27, 10), (27, 11)] s s_478 := k_F.tr f_233 (k_F.mono g_478.1 rfl)
              rw [e_Wr_object_103]
              refine k_bd (q_Pa_put d (by omega) _ _) (fun s_479 x_479 g_479 => ?_)
              have f_479 : k_F [18, 19, 20, 21, 22, 23, 24, 26, 30] [(1, 1), (27, 5), (27, 10), (27, 11)] s s_479 := k_F.tr f_478 (k_F.mono g_479.1 rfl)
              refine k_bd (q_No_left d (by omega) _ _) (fun s_480 x_480 g_480 => ?_)
              obtain ⟨e_480, b_480⟩ := g_480
              have e_480 := e_480.symm
              subst e_480
              refine k_bd (hB _ _ _ _ _ (k_Jto (k_Jle hJ (g_231.2.2 h232)))) (fun s_481 x_481 g_481 => ?_)
              have f_481 : k_F [18, 19, 20, 21, 22, 23, 24, 26, 30] [(1, 1), (27, 5), (27, 10), (27, 11)] s s_481 := k_F.tr f_479 (k_F.mono g_481.1 rfl)
              refine k_bd (q_Pa_put d (by omega) _ _) (fun s_482 x_482 g_482 => ?_)
              have f_482 : k_F [18, 19, 20, 21, 22, 23, 24, 26, 30] [(1, 1), (27, 5), (27, 10), (27, 11)] s s_482 := k_F.tr f_481 (k_F.mono g_482.1 rfl)
              refine k_bd (q_No_left d (by omega) _ _) (fun s_483 x_483 g_483 => ?_)
              obtain ⟨e_483, b_483⟩ := g_483
              have e_483 := e_483.symm
              subst e_483
              refine k_bd (q_Ce_newVariable d (by omega) _ _ _ _) (fun s_484 x_484 g_484 => ?_)
              have f_484 : k_F [18, 19, 20, 21, 22, 23, 24, 26, 30] [(1, 1), (27, 5), (27, 10), (27, 11)] s s_484 := k_F.tr f_482 (k_F.mono g_484.1 rfl)
              refine k_bd (q_Ce_append d (by omega) _ _ _) (fun s_485 x_485 g_485 => ?_)
              have f_485 : k_F [18, 19, 20, 21, 22, 23, 24, 26, 30] [(1, 1), (27, 5), (27, 10), (27, 11)] s s_485 := k_F.tr f_484 (k_F.mono g_485.1 rfl)
              rw [e_Wr_object_177]
              refine k_bd (q_Ce_enter d (by omega) _ _ _ _) (fun s_486 x_486 g_486 => ?_)
              have f_486 : k_F [18, 19, 20, 21, 22, 23, 24, 26, 30] [(1, 1), (27, 5), (27, 10), (27, 11)] s s_486 := k_F.tr f_485 (k_F.mono g_486.1 rfl)
              refine k_bd (q_No_right d (by omega) _ _) (fun s_487 x_487 g_487 => ?_)
              obtain ⟨e_487, b_487⟩ := g_487
              have e_487 := e_487.symm
              subst e_487
              rw [e_Wr_object_209]
              exact k_mono (q_Wr_object_20 d hd D hB hO n _ _ _ _ _ _ _ _ _ _ (k_Jup hJ (g_231.2.2 h232)) (k_upn h1 (by decide) hn)) (fun σ r g => ⟨k_F.tr f_486 g.1, g.2⟩)
            ·
              rw [e_Wr_object_103]
              refine k_bd (q_Pa_put d (by omega) _ _) (fun s_488 x_488 g_488 => ?_)
              have f_488 : k_F [18, 19, 20, 21, 22, 23, 24, 26, 30] [(1, 1), (27, 5), (27, 10), (27, 11)] s s_488 := k_F.tr f_233 (k_F.mono g_488.1 rfl)
              refine k_bd (q_No_left d (by omega) _ _) (fun s_489 x_489 g_489 => ?_)
              obtain ⟨e_489, b_489⟩ := g_489
              have e_489 := e_489.symm
              subst e_489
              refine k_bd (hB _ _ _ _ _ (k_Jto (k_Jle hJ (g_231.2.2 h232)))) (fun s_490 x_490 g_490 => ?_)
              have f_490 : k_F [18, 19, 20, 21, 22, 23, 24, 26, 30] [(1, 1), (27, 5), (27, 10), (27, 11)] s s_490 := k_F.tr f_488 (k_F.mono g_490.1 rfl)
              refine k_bd (q_Pa_put d (by omega) _ _) (fun s_491 x_491 g_491 => ?_)
              have f_491 : k_F [18, 19, 20, 21, 22, 23, 24, 26, 30] [(1, 1), (27, 5), (27, 10), (27, 11)] s s_491 := k_F.tr f_490 (k_F.mono g_491.1 rfl)
              refine k_bd (q_No_left d (by omega) _ _) (fun s_492 x_492 g_492 => ?_)
              obtain ⟨e_492, b_492⟩ := g_492
              have e_492 := e_492.symm
              subst e_492
              refine k_bd (q_Ce_newVariable d (by omega) _ _ _ _) (fun s_493 x_493 g_493 => ?_)
              have f_493 : k_F [18, 19, 20, 21, 22, 23, 24, 26, 30] [(1, 1), (27, 5), (27, 10), (27, 11)] s s_493 := k_F.tr f_491 (k_F.mono g_493.1 rfl)
              refine k_bd (q_Ce_append d (by omega) _ _ _) (fun s_494 x_494 g_494 => ?_)
              have f_494 : k_F [18, 19, 20, 21, 22, 23, 24, 26, 30] [(1, 1), (27, 5), (27, 10), (27, 11)] s s_494 := k_F.tr f_493 (k_F.mono g_494.1 rfl)
              rw [e_Wr_object_177]
              refine k_bd (q_Ce_enter d (by omega) _ _ _ _) (fun s_495 x_495 g_495 => ?_)
              have f_495 : k_F [18, 19, 20, 21, 22, 23, 24, 26, 30] [(1, 1), (27, 5), (27, 10), (27, 11)] s s_495 := k_F.tr f_494 (k_F.mono g_495.1 rfl)
              refine k_bd (q_No_right d (by omega) _ _) (fun s_496 x_496 g_496 => ?_)
              obtain ⟨e_496, b_496⟩ := g_496
              have e_496 := e_496.symm
              subst e_496
              rw [e_Wr_object_209]
              exact k_mono (q_Wr_object_20 d hd D hB hO n _ _ _ _ _ _ _ _ _ _ (k_Jup hJ (g_231.2.2 h232)) (k_upn h1 (by decide) hn)) (fun σ r g => ⟨k_F.tr f_495 g.1, g.2⟩)
theorem q_Wr_objects_12 (d : Nat) (hd : 5 ≤ d) (D : Int32) (ho : ∀ (a b c e f : Int32) (t : c_S), k_ok (c_M d 229 [v_r 33, v_i a, v_i b, v_i c, v_i D, v_i e, v_i f] t) (fun σ r => k_F [18, 19, 20, 21, 22, 23, 24, 26, 30] [(1, 1), (27, 5), (27, 10), (27, 11)] t σ ∧ k_b 0 r)) : ∀ (n : Nat) (i5 : Int32) (i6 : Int32) (i7 : Int32) (i8 : Int32) (i9 : Int32) (s : c_S), k_m i9 < n → k_ok (b_Wr_objects_12 (c_M d) D i5 i6 i7 i8 i9 s) (fun σ r => k_F [18, 19, 20, 21, 22, 23, 24, 26, 30] [(1, 1), (27, 5), (27, 10), (27, 11)] s σ ∧ k_b 0 r)
  | 0, i5, i6, i7, i8, i9, s, hn => absurd hn (Nat.not_lt_zero _)
  | n + 1, i5, i6, i7, i8, i9, s, hn => by
    rw [e_Wr_objects_12]
    refine k_if (fun h1 => ?_) (fun h1 => ?_)
    ·
      refine k_if (fun h2 => ?_) (fun h2 => ?_)
      ·
        exact k_some ⟨k_F.rf, k_b0⟩
      ·
        refine k_bd (q_Me_trouble d (by omega)  _) (fun s_3 x_3 g_3 => ?_)
        obtain ⟨e_3, b_3⟩ := g_3
        have e_3 := e_3.symm
        subst e_3
        refine k_if (fun h4 => ?_) (fun h4 => ?_)
        ·
          refine k_bd (q_Ce_next d (by omega) _ _) (fun s_5 x_5 g_5 => ?_)
          obtain ⟨e_5, b_5⟩ := g_5
          have e_5 := e_5.symm
          subst e_5
          refine k_bd (q_Ce_mark d (by omega)  _) (fun s_6 x_6 g_6 => ?_)
          obtain ⟨e_6, b_6⟩ := g_6
          have e_6 := e_6.symm
          subst e_6
          rw [e_Wr_objects_54]
          refine k_bd (q_Pa_put d (by omega) _ _) (fun s_7 x_7 g_7 => ?_)
          have f_7 : k_F [18, 19, 20, 21, 22, 23, 24, 26, 30] [(1, 1), (27, 5), (27, 10), (27, 11)] s s_7 := k_F.tr k_F.rf (k_F.mono g_7.1 rfl)
          refine k_bd (q_No_left d (by omega) _ _) (fun s_8 x_8 g_8 => ?_)
          obtain ⟨e_8, b_8⟩ := g_8
          have e_8 := e_8.symm
          subst e_8
          refine k_bd (ho _ _ _ _ _ _) (fun s_9 x_9 g_9 => ?_)
          have f_9 : k_F [18, 19, 20, 21, 22, 23, 24, 26, 30] [(1, 1), (27, 5), (27, 10), (27, 11)] s s_9 := k_F.tr f_7 (k_F.mono g_9.1 rfl)
          refine k_bd (q_Ce_release d (by omega) _ _) (fun s_10 x_10 g_10 => ?_)
          have f_10 : k_F [18, 19, 20, 21, 22, 23, 24, 26, 30] [(1, 1), (27, 5), (27, 10), (27, 11)] s s_10 := k_F.tr f_9 (k_F.mono g_10.1 rfl)
          refine k_bd (q_Ce_bind d (by omega) _ _ _ _) (fun s_11 x_11 g_11 => ?_)
          have f_11 : k_F [18, 19, 20, 21, 22, 23, 24, 26, 30] [(1, 1), (27, 5), (27, 10), (27, 11)] s s_11 := k_F.tr f_10 (k_F.mono g_11.1 rfl)
          refine k_bd (q_No_right d (by omega) _ _) (fun s_12 x_12 g_12 => ?_)
          obtain ⟨e_12, b_12⟩ := g_12
          have e_12 := e_12.symm
          subst e_12
          rw [e_Wr_objects_120]
          exact k_mono (q_Wr_objects_12 d hd D ho n _ _ _ _ _ _ (k_up h1 hn)) (fun σ r g => ⟨k_F.tr f_11 g.1, g.2⟩)
        ·
          exact k_some ⟨k_F.rf, k_b0⟩
    ·
      exact k_some ⟨k_F.rf, k_b0⟩
theorem q_Wr_objects (d : Nat) (hd : 5 ≤ d) (D : Int32) (ho : ∀ (a b c e f : Int32) (t : c_S), k_ok (c_M d 229 [v_r 33, v_i a, v_i b, v_i c, v_i D, v_i e, v_i f] t) (fun σ r => k_F [18, 19, 20, 21, 22, 23, 24, 26, 30] [(1, 1), (27, 5), (27, 10), (27, 11)] t σ ∧ k_b 0 r)) (a b c e : Int32) (s : c_S) : k_ok (c_M (d + 1) 231 [v_r 33, v_i a, v_i b, v_i c, v_i D, v_i e] s) (fun σ r => k_F [18, 19, 20, 21, 22, 23, 24, 26, 30] [(1, 1), (27, 5), (27, 10), (27, 11)] s σ ∧ k_b 0 r) := by
  rw [m_Wr_objects, e_Wr_objects_0]
  exact q_Wr_objects_12 d hd D ho _ _ _ _ _ _ _ (Nat.lt_succ_self _)
theorem q_Wr_binding (d : Nat) (hd : 5 ≤ d) (D : Int32) (hf : ∀ (a b c : Int32) (t : c_S), k_ok (c_M d 227 [v_r 33, v_i a, v_i b, v_i D, v_i c] t) (fun σ r => k_F [18, 19, 20, 21, 22, 23, 24, 26, 30] [(1, 1), (27, 5), (27, 10), (27, 11)] t σ ∧ k_b 0 r)) (a b c : Int32) (s : c_S) : k_ok (c_M (d + 1) 228 [v_r 33, v_i a, v_i b, v_i D, v_i c] s) (fun σ r => k_F [18, 19, 20, 21, 22, 23, 24, 26, 30] [(1, 1), (27, 5), (27, 10), (27, 11)] s σ ∧ k_b 0 r) := by
  rw [m_Wr_binding, e_Wr_binding_0]
  refine k_bd (q_Ce_mark d (by omega)  _) (fun s_1 x_1 g_1 => ?_)
  obtain ⟨e_1, b_1⟩ := g_1
  have e_1 := e_1.symm
  subst e_1
  refine k_bd (q_Wr_putVariable d (by omega) _ _) (fun s_2 x_2 g_2 => ?_)
  have f_2 : k_F [18, 19, 20, 21, 22, 23, 24, 26, 30] [(1, 1), (27, 5), (27, 10), (27, 11)] s s_2 := k_F.tr k_F.rf (k_F.mono g_2.1 rfl)
  refine k_bd (q_Pa_put d (by omega) _ _) (fun s_3 x_3 g_3 => ?_)
  have f_3 : k_F [18, 19, 20, 21, 22, 23, 24, 26, 30] [(1, 1), (27, 5), (27, 10), (27, 11)] s s_3 := k_F.tr f_2 (k_F.mono g_3.1 rfl)
  refine k_bd (hf _ _ _ _) (fun s_4 x_4 g_4 => ?_)
  have f_4 : k_F [18, 19, 20, 21, 22, 23, 24, 26, 30] [(1, 1), (27, 5), (27, 10), (27, 11)] s s_4 := k_F.tr f_3 (k_F.mono g_4.1 rfl)
  refine k_bd (q_Ce_release d (by omega) _ _) (fun s_5 x_5 g_5 => ?_)
  have f_5 : k_F [18, 19, 20, 21, 22, 23, 24, 26, 30] [(1, 1), (27, 5), (27, 10), (27, 11)] s s_5 := k_F.tr f_4 (k_F.mono g_5.1 rfl)
  exact k_some ⟨f_5, k_b0⟩
theorem q_Wr_group : ∀ (N : Nat), (∀ (d : Nat) (a b D c : Int32) (s : c_S), k_mu D < N → 5 + 2 * N ≤ d → k_ok (c_M d 227 [v_r 33, v_i a, v_i b, v_i D, v_i c] s) (fun σ r => k_F [18, 19, 20, 21, 22, 23, 24, 26, 30] [(1, 1), (27, 5), (27, 10), (27, 11)] s σ ∧ k_b 0 r)) ∧ (∀ (d : Nat) (a b c D e f : Int32) (s : c_S), k_mu D < N → 5 + 2 * N ≤ d → k_ok (c_M d 229 [v_r 33, v_i a, v_i b, v_i c, v_i D, v_i e, v_i f] s) (fun σ r => k_F [18, 19, 20, 21, 22, 23, 24, 26, 30] [(1, 1), (27, 5), (27, 10), (27, 11)] s σ ∧ k_b 0 r))
  | 0 => ⟨fun _ _ _ _ _ _ h _ => absurd h (Nat.not_lt_zero _), fun _ _ _ _ _ _ _ _ h _ => absurd h (Nat.not_lt_zero _)⟩
  | N + 1 => by
    obtain ⟨ihF, ihO⟩ := q_Wr_group N
    have hB : ∀ (d : Nat) (D : Int32), k_mu D < N + 1 → 5 + 2 * N + 1 ≤ d → ∀ (a b E c : Int32) (t : c_S), k_lt D E → k_ok (c_M d 228 [v_r 33, v_i a, v_i b, v_i E, v_i c] t) (fun σ r => k_F [18, 19, 20, 21, 22, 23, 24, 26, 30] [(1, 1), (27, 5), (27, 10), (27, 11)] t σ ∧ k_b 0 r) := fun d D hD hd a b E c t hE => by
      obtain ⟨d, rfl⟩ : ∃ e, d = e + 1 := ⟨d - 1, by omega⟩
      exact q_Wr_binding d (by omega) E (fun a b c t => ihF d a b E c t (by have := hE.mu; omega) (by omega)) a b c t
    have hO : ∀ (d : Nat) (D : Int32), k_mu D < N + 1 → 5 + 2 * N + 1 ≤ d → ∀ (a b c E e : Int32) (t : c_S), k_lt D E → k_ok (c_M d 231 [v_r 33, v_i a, v_i b, v_i c, v_i E, v_i e] t) (fun σ r => k_F [18, 19, 20, 21, 22, 23, 24, 26, 30] [(1, 1), (27, 5), (27, 10), (27, 11)] t σ ∧ k_b 0 r) := fun d D hD hd a b c E e t hE => by
      obtain ⟨d, rfl⟩ : ∃ e, d = e + 1 := ⟨d - 1, by omega⟩
      exact q_Wr_objects d (by omega) E (fun a b c e f t => ihO d a b c E e f t (by have := hE.mu; omega) (by omega)) a b c e t
    constructor
    · intro d a b D c s hD hd
      obtain ⟨d, rfl⟩ : ∃ e, d = e + 1 := ⟨d - 1, by omega⟩
      rw [m_Wr_family, e_Wr_family_0]
      exact q_Wr_family_16 d (by omega) D (hB d D hD (by omega)) (hO d D hD (by omega)) _ _ _ _ _ _ _ k_J0 (Nat.lt_succ_self _)
    · intro d a b c D e f s hD hd
      obtain ⟨d, rfl⟩ : ∃ e, d = e + 1 := ⟨d - 1, by omega⟩
      rw [m_Wr_object, e_Wr_object_0, e_Wr_object_17]
      exact q_Wr_object_20 d (by omega) D (hB d D hD (by omega)) (hO d D hD (by omega)) _ _ _ _ _ _ _ _ _ _ _ k_J0 (Nat.lt_succ_self _)
theorem q_Wr_write (d : Nat) (hd : 212 ≤ d) (i1 i2 : Int32) (s : c_S) : k_ok (c_M d 226 [v_r 33, v_i i1, v_i i2] s) (fun σ r => k_F [18, 19, 20, 21, 22, 23, 24, 25, 26, 30, 33] [(1, 1), (27, 5), (27, 10), (27, 11)] s σ ∧ k_b 0 r) := by
  obtain ⟨d, rfl⟩ : ∃ e, d = e + 1 := ⟨d - 1, by omega⟩
  rw [m_Wr_write, e_Wr_write_0]
  refine k_bd (q_Co_fewestXs d (by omega)  _) (fun s_1 x_1 g_1 => ?_)
  obtain ⟨e_1, b_1⟩ := g_1
  have e_1 := e_1.symm
  subst e_1
  refine k_bd (q_Pa_beginDraft d (by omega)  _) (fun s_2 x_2 g_2 => ?_)
  have f_2 : k_F [18, 19, 20, 21, 22, 23, 24, 25, 26, 30, 33] [(1, 1), (27, 5), (27, 10), (27, 11)] s s_2 := k_F.tr (k_F.puf k_F.rf rfl) (k_F.mono g_2.1 rfl)
  refine k_if (fun h3 => ?_) (fun h3 => ?_)
  ·
    refine k_bd (q_Ce_make d (by omega) _ _ _) (fun s_4 x_4 g_4 => ?_)
    have f_4 : k_F [18, 19, 20, 21, 22, 23, 24, 25, 26, 30, 33] [(1, 1), (27, 5), (27, 10), (27, 11)] s s_4 := k_F.tr f_2 (k_F.mono g_4.1 rfl)
    refine k_bd ((q_Wr_group 103).2 d _ _ _ _ _ _ _ (by decide) (by omega)) (fun s_5 x_5 g_5 => ?_)
    have f_5 : k_F [18, 19, 20, 21, 22, 23, 24, 25, 26, 30, 33] [(1, 1), (27, 5), (27, 10), (27, 11)] s s_5 := k_F.tr f_4 (k_F.mono g_5.1 rfl)
    rw [e_Wr_write_51]
    refine k_bd (q_Me_trouble d (by omega)  _) (fun s_6 x_6 g_6 => ?_)
    obtain ⟨e_6, b_6⟩ := g_6
    have e_6 := e_6.symm
    subst e_6
    refine k_if (fun h7 => ?_) (fun h7 => ?_)
    ·
      refine k_bd (q_Pa_keepDraft d (by omega)  _) (fun s_8 x_8 g_8 => ?_)
      have f_8 : k_F [18, 19, 20, 21, 22, 23, 24, 25, 26, 30, 33] [(1, 1), (27, 5), (27, 10), (27, 11)] s s_8 := k_F.tr f_5 (k_F.mono g_8.1 rfl)
      exact k_some ⟨f_8, k_b0⟩
    ·
      exact k_some ⟨f_5, k_b0⟩
  ·
    refine k_bd ((q_Wr_group 103).1 d _ _ _ _ _ (by decide) (by omega)) (fun s_9 x_9 g_9 => ?_)
    have f_9 : k_F [18, 19, 20, 21, 22, 23, 24, 25, 26, 30, 33] [(1, 1), (27, 5), (27, 10), (27, 11)] s s_9 := k_F.tr f_2 (k_F.mono g_9.1 rfl)
    rw [e_Wr_write_51]
    refine k_bd (q_Me_trouble d (by omega)  _) (fun s_10 x_10 g_10 => ?_)
    obtain ⟨e_10, b_10⟩ := g_10
    have e_10 := e_10.symm
    subst e_10
    refine k_if (fun h11 => ?_) (fun h11 => ?_)
    ·
      refine k_bd (q_Pa_keepDraft d (by omega)  _) (fun s_12 x_12 g_12 => ?_)
      have f_12 : k_F [18, 19, 20, 21, 22, 23, 24, 25, 26, 30, 33] [(1, 1), (27, 5), (27, 10), (27, 11)] s s_12 := k_F.tr f_9 (k_F.mono g_12.1 rfl)
      exact k_some ⟨f_12, k_b0⟩
    ·
      exact k_some ⟨f_9, k_b0⟩
theorem q_Ju_sameObjects (d : Nat) (hd : 109 ≤ d) (i1 i2 : Int32) (s : c_S) : k_ok (c_M d 146 [v_r 31, v_i i1, v_i i2] s) (fun σ r => k_F [18, 19, 20, 21, 22, 23, 30, 31] [(1, 1), (27, 5), (27, 10), (27, 11)] s σ ∧ k_b 2 r) := by
  obtain ⟨d, rfl⟩ : ∃ e, d = e + 1 := ⟨d - 1, by omega⟩
  rw [m_Ju_sameObjects, e_Ju_sameObjects_0]
  refine k_bd (q_Ce_make d (by omega) _ _ _) (fun s_1 x_1 g_1 => ?_)
  have f_1 : k_F [18, 19, 20, 21, 22, 23, 30, 31] [(1, 1), (27, 5), (27, 10), (27, 11)] s s_1 := k_F.tr k_F.rf (k_F.mono g_1.1 rfl)
  refine k_bd (q_Ce_make d (by omega) _ _ _) (fun s_2 x_2 g_2 => ?_)
  have f_2 : k_F [18, 19, 20, 21, 22, 23, 30, 31] [(1, 1), (27, 5), (27, 10), (27, 11)] s s_2 := k_F.tr f_1 (k_F.mono g_2.1 rfl)
  refine k_bd (q_Ju_meet d (by omega) _ _ _ _ _) (fun s_3 x_3 g_3 => ?_)
  have f_3 : k_F [18, 19, 20, 21, 22, 23, 30, 31] [(1, 1), (27, 5), (27, 10), (27, 11)] s s_3 := k_F.tr f_2 (k_F.mono g_3.1 rfl)
  refine k_if (fun h4 => ?_) (fun h4 => ?_)
  ·
    exact k_some ⟨f_3, (k_b2 (by decide))⟩
  ·
    refine k_bd (q_Ju_rows 103 d _ _ _ _ _ (by have := (k_met g_3.2.2 h4).mu; have h2 : k_mu 1 = 102 := (by decide); omega) (by omega)) (fun s_5 x_5 g_5 => ?_)
    have f_5 : k_F [18, 19, 20, 21, 22, 23, 30, 31] [(1, 1), (27, 5), (27, 10), (27, 11)] s s_5 := k_F.tr f_3 (k_F.mono g_5.1 rfl)
    refine k_if (fun h6 => ?_) (fun h6 => ?_)
    ·
      exact k_some ⟨f_5, (k_b2 (by decide))⟩
    ·
      exact k_some ⟨f_5, (k_b2 (by decide))⟩
theorem q_Fb_comparison (d : Nat) (hd : 111 ≤ d) (i1 i2 : Int32) (s : c_S) : k_ok (c_M d 13 [v_r 0, v_i i1, v_i i2] s) (fun σ r => k_F [18, 19, 20, 21, 22, 23, 30, 31] [(1, 1), (27, 5), (27, 10), (27, 11)] s σ ∧ k_b 1 r) := by
  obtain ⟨d, rfl⟩ : ∃ e, d = e + 1 := ⟨d - 1, by omega⟩
  rw [m_Fb_comparison, e_Fb_comparison_0]
  refine k_bd (q_Ju_families 103 d _ _ _ _ _ _ (by decide) (by omega)) (fun s_1 x_1 g_1 => ?_)
  have f_1 : k_F [18, 19, 20, 21, 22, 23, 30, 31] [(1, 1), (27, 5), (27, 10), (27, 11)] s s_1 := k_F.tr k_F.rf (k_F.mono g_1.1 rfl)
  refine k_if (fun h2 => ?_) (fun h2 => ?_)
  ·
    rw [e_Fb_comparison_34]
    refine k_bd (q_Me_trouble d (by omega)  _) (fun s_3 x_3 g_3 => ?_)
    obtain ⟨e_3, b_3⟩ := g_3
    have e_3 := e_3.symm
    subst e_3
    refine k_if (fun h4 => ?_) (fun h4 => ?_)
    ·
      refine k_if (fun h5 => ?_) (fun h5 => ?_)
      ·
        exact k_some ⟨f_1, k_b1⟩
      ·
        refine k_if (fun h6 => ?_) (fun h6 => ?_)
        ·
          exact k_some ⟨f_1, k_b1⟩
        ·
          exact k_some ⟨f_1, k_b1⟩
    ·
      refine k_bd (q_Fb_troubleAtEnd d (by omega)  _) (fun s_7 x_7 g_7 => ?_)
      obtain ⟨e_7, b_7⟩ := g_7
      have e_7 := e_7.symm
      subst e_7
      exact k_some ⟨f_1, k_b1⟩
  ·
    refine k_bd (q_Ju_sameObjects d (by omega) _ _ _) (fun s_8 x_8 g_8 => ?_)
    have f_8 : k_F [18, 19, 20, 21, 22, 23, 30, 31] [(1, 1), (27, 5), (27, 10), (27, 11)] s s_8 := k_F.tr f_1 (k_F.mono g_8.1 rfl)
    refine k_if (fun h9 => ?_) (fun h9 => ?_)
    ·
      rw [e_Fb_comparison_34]
      refine k_bd (q_Me_trouble d (by omega)  _) (fun s_10 x_10 g_10 => ?_)
      obtain ⟨e_10, b_10⟩ := g_10
      have e_10 := e_10.symm
      subst e_10
      refine k_if (fun h11 => ?_) (fun h11 => ?_)
      ·
        refine k_if (fun h12 => ?_) (fun h12 => ?_)
        ·
          exact k_some ⟨f_8, k_b1⟩
        ·
          refine k_if (fun h13 => ?_) (fun h13 => ?_)
          ·
            exact k_some ⟨f_8, k_b1⟩
          ·
            exact k_some ⟨f_8, k_b1⟩
      ·
        refine k_bd (q_Fb_troubleAtEnd d (by omega)  _) (fun s_14 x_14 g_14 => ?_)
        obtain ⟨e_14, b_14⟩ := g_14
        have e_14 := e_14.symm
        subst e_14
        exact k_some ⟨f_8, k_b1⟩
    ·
      rw [e_Fb_comparison_34]
      refine k_bd (q_Me_trouble d (by omega)  _) (fun s_15 x_15 g_15 => ?_)
      obtain ⟨e_15, b_15⟩ := g_15
      have e_15 := e_15.symm
      subst e_15
      refine k_if (fun h16 => ?_) (fun h16 => ?_)
      ·
        refine k_if (fun h17 => ?_) (fun h17 => ?_)
        ·
          exact k_some ⟨f_8, k_b1⟩
        ·
          refine k_if (fun h18 => ?_) (fun h18 => ?_)
          ·
            exact k_some ⟨f_8, k_b1⟩
          ·
            exact k_some ⟨f_8, k_b1⟩
      ·
        refine k_bd (q_Fb_troubleAtEnd d (by omega)  _) (fun s_19 x_19 g_19 => ?_)
        obtain ⟨e_19, b_19⟩ := g_19
        have e_19 := e_19.symm
        subst e_19
        exact k_some ⟨f_8, k_b1⟩
