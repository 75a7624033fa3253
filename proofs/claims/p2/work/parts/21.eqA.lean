noncomputable def b_Ce_mark_0 (C : c_C)  (s : c_S) : c_R := c_run d_CT T_Ce_mark L_Ce_mark 1 C 0 [(0, v_r 19)] [] s
noncomputable def b_Ce_release_0 (C : c_C) (i1 : Int32) (s : c_S) : c_R := c_run d_CT T_Ce_release L_Ce_release 0 C 0 [(0, v_r 19), (1, v_i i1)] [] s
noncomputable def b_Ce_make_0 (C : c_C) (i1 : Int32) (i2 : Int32) (s : c_S) : c_R := c_run d_CT T_Ce_make L_Ce_make 1 C 0 [(0, v_r 19), (1, v_i i1), (2, v_i i2)] [] s
noncomputable def b_Ce_make_17 (C : c_C)  (s : c_S) : c_R := c_run d_CT T_Ce_make L_Ce_make 1 C 17 [(0, v_r 19)] [] s
noncomputable def b_Ce_make_71 (C : c_C) (i3 : Int32) (s : c_S) : c_R := c_run d_CT T_Ce_make L_Ce_make 1 C 71 [(3, v_i i3)] [] s
noncomputable def b_Ce_term_0 (C : c_C) (i1 : Int32) (s : c_S) : c_R := c_run d_CT T_Ce_term L_Ce_term 1 C 0 [(0, v_r 19), (1, v_i i1)] [] s
noncomputable def b_Ce_scope_0 (C : c_C) (i1 : Int32) (s : c_S) : c_R := c_run d_CT T_Ce_scope L_Ce_scope 1 C 0 [(0, v_r 19), (1, v_i i1)] [] s
noncomputable def b_Ce_next_0 (C : c_C) (i1 : Int32) (s : c_S) : c_R := c_run d_CT T_Ce_next L_Ce_next 1 C 0 [(0, v_r 19), (1, v_i i1)] [] s
noncomputable def b_Ce_binder_0 (C : c_C) (i1 : Int32) (s : c_S) : c_R := c_run d_CT T_Ce_binder L_Ce_binder 1 C 0 [(0, v_r 19), (1, v_i i1)] [] s
noncomputable def b_Ce_link_0 (C : c_C) (i1 : Int32) (i2 : Int32) (s : c_S) : c_R := c_run d_CT T_Ce_link L_Ce_link 0 C 0 [(0, v_r 19), (1, v_i i1), (2, v_i i2)] [] s
noncomputable def b_Ce_bind_0 (C : c_C) (i1 : Int32) (i2 : Int32) (i3 : Int32) (s : c_S) : c_R := c_run d_CT T_Ce_bind L_Ce_bind 1 C 0 [(0, v_r 19), (1, v_i i1), (2, v_i i2), (3, v_i i3)] [] s
noncomputable def b_Ce_newVariable_0 (C : c_C) (i1 : Int32) (i2 : Int32) (i3 : Int32) (s : c_S) : c_R := c_run d_CT T_Ce_newVariable L_Ce_newVariable 1 C 0 [(0, v_r 19), (1, v_i i1), (2, v_i i2), (3, v_i i3)] [] s
noncomputable def b_Ce_numberOf_0 (C : c_C) (i1 : Int32) (s : c_S) : c_R := c_run d_CT T_Ce_numberOf L_Ce_numberOf 1 C 0 [(0, v_r 19), (1, v_i i1)] [] s
noncomputable def b_Ce_enter_0 (C : c_C) (i1 : Int32) (i2 : Int32) (i3 : Int32) (s : c_S) : c_R := c_run d_CT T_Ce_enter L_Ce_enter 1 C 0 [(0, v_r 19), (1, v_i i1), (2, v_i i2), (3, v_i i3)] [] s
noncomputable def b_Ce_append_0 (C : c_C) (i1 : Int32) (i2 : Int32) (s : c_S) : c_R := c_run d_CT T_Ce_append L_Ce_append 1 C 0 [(0, v_r 19), (1, v_i i1), (2, v_i i2)] [] s
noncomputable def b_Ce_append_20 (C : c_C) (i1 : Int32) (i3 : Int32) (i4 : Int32) (i5 : Int32) (s : c_S) : c_R := c_run d_CT T_Ce_append L_Ce_append 1 C 20 [(0, v_r 19), (1, v_i i1), (3, v_i i3), (4, v_i i4), (5, v_i i5)] [] s
noncomputable def b_Ce_append_50 (C : c_C) (i1 : Int32) (i3 : Int32) (i4 : Int32) (s : c_S) : c_R := c_run d_CT T_Ce_append L_Ce_append 1 C 50 [(0, v_r 19), (1, v_i i1), (3, v_i i3), (4, v_i i4)] [] s
noncomputable def b_Ce_outward_0 (C : c_C) (i1 : Int32) (i2 : Int32) (s : c_S) : c_R := c_run d_CT T_Ce_outward L_Ce_outward 1 C 0 [(0, v_r 19), (1, v_i i1), (2, v_i i2)] [] s
noncomputable def b_Ce_outward_5 (C : c_C) (i2 : Int32) (i3 : Int32) (i4 : Int32) (s : c_S) : c_R := c_run d_CT T_Ce_outward L_Ce_outward 1 C 5 [(0, v_r 19), (2, v_i i2), (3, v_i i3), (4, v_i i4)] [] s
noncomputable def b_Me_begin_0 (C : c_C)  (s : c_S) : c_R := c_run d_CT T_Me_begin L_Me_begin 0 C 0 [(0, v_r 18)] [] s
noncomputable def b_Me_stepsInAll_0 (C : c_C)  (s : c_S) : c_R := c_run d_CT T_Me_stepsInAll L_Me_stepsInAll 1 C 0 [(0, v_r 18)] [] s
noncomputable def b_Me_stepsOfLatest_0 (C : c_C)  (s : c_S) : c_R := c_run d_CT T_Me_stepsOfLatest L_Me_stepsOfLatest 1 C 0 [(0, v_r 18)] [] s
noncomputable def b_Me_trouble_0 (C : c_C)  (s : c_S) : c_R := c_run d_CT T_Me_trouble L_Me_trouble 1 C 0 [(0, v_r 18)] [] s
noncomputable def b_Me_stop_0 (C : c_C) (i1 : Int32) (s : c_S) : c_R := c_run d_CT T_Me_stop L_Me_stop 0 C 0 [(0, v_r 18), (1, v_i i1)] [] s
noncomputable def b_Me_step_0 (C : c_C)  (s : c_S) : c_R := c_run d_CT T_Me_step L_Me_step 2 C 0 [(0, v_r 18)] [] s
noncomputable def b_Me_step_25 (C : c_C)  (s : c_S) : c_R := c_run d_CT T_Me_step L_Me_step 2 C 25 [(0, v_r 18)] [] s
noncomputable def b_Me_step_19 (C : c_C)  (s : c_S) : c_R := c_run d_CT T_Me_step L_Me_step 2 C 19 [(0, v_r 18)] [] s
noncomputable def b_Me_question_0 (C : c_C) (i1 : Int32) (s : c_S) : c_R := c_run d_CT T_Me_question L_Me_question 2 C 0 [(0, v_r 18), (1, v_i i1)] [] s
noncomputable def b_Me_question_12 (C : c_C)  (s : c_S) : c_R := c_run d_CT T_Me_question L_Me_question 2 C 12 [(0, v_r 18)] [] s
noncomputable def b_No_mark_0 (C : c_C)  (s : c_S) : c_R := c_run d_CT T_No_mark L_No_mark 1 C 0 [(0, v_r 3)] [] s
noncomputable def b_No_release_0 (C : c_C) (i1 : Int32) (s : c_S) : c_R := c_run d_CT T_No_release L_No_release 0 C 0 [(0, v_r 3), (1, v_i i1)] [] s
noncomputable def b_No_full_0 (C : c_C)  (s : c_S) : c_R := c_run d_CT T_No_full L_No_full 2 C 0 [(0, v_r 3)] [] s
noncomputable def b_No_make_0 (C : c_C) (i1 : Int32) (i2 : Int32) (i3 : Int32) (i4 : Int32) (i5 : Int32) (s : c_S) : c_R := c_run d_CT T_No_make L_No_make 1 C 0 [(0, v_r 3), (1, v_i i1), (2, v_i i2), (3, v_i i3), (4, v_i i4), (5, v_i i5)] [] s
noncomputable def b_No_make_68 (C : c_C) (i4 : Int32) (i5 : Int32) (i6 : Int32) (s : c_S) : c_R := c_run d_CT T_No_make L_No_make 1 C 68 [(0, v_r 3), (4, v_i i4), (5, v_i i5), (6, v_i i6)] [] s
noncomputable def b_No_kind_0 (C : c_C) (i1 : Int32) (s : c_S) : c_R := c_run d_CT T_No_kind L_No_kind 1 C 0 [(0, v_r 3), (1, v_i i1)] [] s
noncomputable def b_No_left_0 (C : c_C) (i1 : Int32) (s : c_S) : c_R := c_run d_CT T_No_left L_No_left 1 C 0 [(0, v_r 3), (1, v_i i1)] [] s
noncomputable def b_No_right_0 (C : c_C) (i1 : Int32) (s : c_S) : c_R := c_run d_CT T_No_right L_No_right 1 C 0 [(0, v_r 3), (1, v_i i1)] [] s
noncomputable def b_No_sibling_0 (C : c_C) (i1 : Int32) (s : c_S) : c_R := c_run d_CT T_No_sibling L_No_sibling 1 C 0 [(0, v_r 3), (1, v_i i1)] [] s
noncomputable def b_No_token_0 (C : c_C) (i1 : Int32) (s : c_S) : c_R := c_run d_CT T_No_token L_No_token 1 C 0 [(0, v_r 3), (1, v_i i1)] [] s
noncomputable def b_No_first_0 (C : c_C) (i1 : Int32) (s : c_S) : c_R := c_run d_CT T_No_first L_No_first 1 C 0 [(0, v_r 3), (1, v_i i1)] [] s
noncomputable def b_No_place_0 (C : c_C) (i1 : Int32) (s : c_S) : c_R := c_run d_CT T_No_place L_No_place 1 C 0 [(0, v_r 3), (1, v_i i1)] [] s
noncomputable def b_No_inBrackets_0 (C : c_C) (i1 : Int32) (s : c_S) : c_R := c_run d_CT T_No_inBrackets L_No_inBrackets 2 C 0 [(0, v_r 3), (1, v_i i1)] [] s
noncomputable def b_No_isArrow_0 (C : c_C) (i1 : Int32) (s : c_S) : c_R := c_run d_CT T_No_isArrow L_No_isArrow 2 C 0 [(0, v_r 3), (1, v_i i1)] [] s
noncomputable def b_No_setPlace_0 (C : c_C) (i1 : Int32) (i2 : Int32) (s : c_S) : c_R := c_run d_CT T_No_setPlace L_No_setPlace 0 C 0 [(0, v_r 3), (1, v_i i1), (2, v_i i2)] [] s
noncomputable def b_No_setSibling_0 (C : c_C) (i1 : Int32) (i2 : Int32) (s : c_S) : c_R := c_run d_CT T_No_setSibling L_No_setSibling 0 C 0 [(0, v_r 3), (1, v_i i1), (2, v_i i2)] [] s
noncomputable def b_No_becomeFamily_0 (C : c_C) (i1 : Int32) (i2 : Int32) (s : c_S) : c_R := c_run d_CT T_No_becomeFamily L_No_becomeFamily 0 C 0 [(0, v_r 3), (1, v_i i1), (2, v_i i2)] [] s
noncomputable def b_Pa_length_0 (C : c_C)  (s : c_S) : c_R := c_run d_CT T_Pa_length L_Pa_length 1 C 0 [(0, v_r 24)] [] s
noncomputable def b_Pa_signAt_0 (C : c_C) (i1 : Int32) (s : c_S) : c_R := c_run d_CT T_Pa_signAt L_Pa_signAt 1 C 0 [(0, v_r 24), (1, v_i i1)] [] s
noncomputable def b_Pa_beginDraft_0 (C : c_C)  (s : c_S) : c_R := c_run d_CT T_Pa_beginDraft L_Pa_beginDraft 0 C 0 [(0, v_r 24)] [] s
noncomputable def b_Pa_put_0 (C : c_C) (i1 : Int32) (s : c_S) : c_R := c_run d_CT T_Pa_put L_Pa_put 0 C 0 [(0, v_r 24), (1, v_i i1)] [] s
noncomputable def b_Pa_put_17 (C : c_C) (i1 : Int32) (s : c_S) : c_R := c_run d_CT T_Pa_put L_Pa_put 0 C 17 [(0, v_r 24), (1, v_i i1)] [] s
noncomputable def b_Pa_put_26 (C : c_C) (i1 : Int32) (s : c_S) : c_R := c_run d_CT T_Pa_put L_Pa_put 0 C 26 [(0, v_r 24), (1, v_i i1)] [] s
noncomputable def b_Pa_keepDraft_0 (C : c_C)  (s : c_S) : c_R := c_run d_CT T_Pa_keepDraft L_Pa_keepDraft 0 C 0 [(0, v_r 24)] [] s
noncomputable def b_Pa_keepDraft_2 (C : c_C) (i1 : Int32) (s : c_S) : c_R := c_run d_CT T_Pa_keepDraft L_Pa_keepDraft 0 C 2 [(0, v_r 24), (1, v_i i1)] [] s
noncomputable def b_Ta_append_0 (C : c_C) (j1 : Int64) (s : c_S) : c_R := c_run d_CT T_Ta_append L_Ta_append 0 C 0 [(0, v_r 1), (1, v_l j1)] [] s
noncomputable def b_Ta_append_3 (C : c_C) (j1 : Int64) (i3 : Int32) (s : c_S) : c_R := c_run d_CT T_Ta_append L_Ta_append 0 C 3 [(0, v_r 1), (1, v_l j1), (3, v_i i3)] [] s
noncomputable def b_Ta_append_43 (C : c_C) (j1 : Int64) (i3 : Int32) (i4 : Int32) (t0 : Int32) (s : c_S) : c_R := c_run d_CT T_Ta_append L_Ta_append 0 C 43 [(0, v_r 1), (1, v_l j1), (3, v_i i3), (4, v_i i4)] [v_i t0] s
noncomputable def b_Ta_length_0 (C : c_C)  (s : c_S) : c_R := c_run d_CT T_Ta_length L_Ta_length 1 C 0 [(0, v_r 1)] [] s
noncomputable def b_Ta_empty_0 (C : c_C)  (s : c_S) : c_R := c_run d_CT T_Ta_empty L_Ta_empty 0 C 0 [(0, v_r 1)] [] s
noncomputable def b_Ta_signAt_0 (C : c_C) (i1 : Int32) (s : c_S) : c_R := c_run d_CT T_Ta_signAt L_Ta_signAt 1 C 0 [(0, v_r 1), (1, v_i i1)] [] s
noncomputable def b_Ta_token_0 (C : c_C)  (s : c_S) : c_R := c_run d_CT T_Ta_token L_Ta_token 1 C 0 [(0, v_r 1)] [] s
noncomputable def b_Ta_place_0 (C : c_C)  (s : c_S) : c_R := c_run d_CT T_Ta_place L_Ta_place 1 C 0 [(0, v_r 1)] [] s
noncomputable def b_Ta_wordLength_0 (C : c_C)  (s : c_S) : c_R := c_run d_CT T_Ta_wordLength L_Ta_wordLength 1 C 0 [(0, v_r 1)] [] s
noncomputable def b_Ta_atEnd_0 (C : c_C)  (s : c_S) : c_R := c_run d_CT T_Ta_atEnd L_Ta_atEnd 2 C 0 [(0, v_r 1)] [] s
noncomputable def b_Ta_rewind_0 (C : c_C)  (s : c_S) : c_R := c_run d_CT T_Ta_rewind L_Ta_rewind 0 C 0 [(0, v_r 1)] [] s
noncomputable def b_Ta_advance_0 (C : c_C)  (s : c_S) : c_R := c_run d_CT T_Ta_advance L_Ta_advance 0 C 0 [(0, v_r 1)] [] s
noncomputable def b_Ta_advance_5 (C : c_C) (i1 : Int32) (s : c_S) : c_R := c_run d_CT T_Ta_advance L_Ta_advance 0 C 5 [(0, v_r 1), (1, v_i i1)] [] s
noncomputable def b_Ta_advance_30 (C : c_C) (i1 : Int32) (s : c_S) : c_R := c_run d_CT T_Ta_advance L_Ta_advance 0 C 30 [(0, v_r 1), (1, v_i i1)] [] s
noncomputable def b_Ta_advance_98 (C : c_C) (i1 : Int32) (s : c_S) : c_R := c_run d_CT T_Ta_advance L_Ta_advance 0 C 98 [(0, v_r 1), (1, v_i i1)] [] s
noncomputable def b_Ta_readWord_0 (C : c_C)  (s : c_S) : c_R := c_run d_CT T_Ta_readWord L_Ta_readWord 0 C 0 [(0, v_r 1)] [] s
noncomputable def b_Ta_readWord_5 (C : c_C) (i1 : Int32) (s : c_S) : c_R := c_run d_CT T_Ta_readWord L_Ta_readWord 0 C 5 [(0, v_r 1), (1, v_i i1)] [] s
noncomputable def b_Ta_readWord_41 (C : c_C) (i1 : Int32) (s : c_S) : c_R := c_run d_CT T_Ta_readWord L_Ta_readWord 0 C 41 [(0, v_r 1), (1, v_i i1)] [] s
noncomputable def b_Ta_readWord_114 (C : c_C) (i1 : Int32) (s : c_S) : c_R := c_run d_CT T_Ta_readWord L_Ta_readWord 0 C 114 [(0, v_r 1), (1, v_i i1)] [] s
noncomputable def b_Ta_readWord_118 (C : c_C) (i1 : Int32) (s : c_S) : c_R := c_run d_CT T_Ta_readWord L_Ta_readWord 0 C 118 [(0, v_r 1), (1, v_i i1)] [] s
noncomputable def b_Ta_readWord_119 (C : c_C) (i1 : Int32) (t0 : Int32) (s : c_S) : c_R := c_run d_CT T_Ta_readWord L_Ta_readWord 0 C 119 [(0, v_r 1), (1, v_i i1)] [v_i t0] s
noncomputable def b_Ta_sameSigns_0 (C : c_C) (i1 : Int32) (i2 : Int32) (i3 : Int32) (s : c_S) : c_R := c_run d_CT T_Ta_sameSigns L_Ta_sameSigns 2 C 0 [(0, v_r 1), (1, v_i i1), (2, v_i i2), (3, v_i i3)] [] s
noncomputable def b_Ta_sameSigns_3 (C : c_C) (i1 : Int32) (i2 : Int32) (i3 : Int32) (i4 : Int32) (s : c_S) : c_R := c_run d_CT T_Ta_sameSigns L_Ta_sameSigns 2 C 3 [(0, v_r 1), (1, v_i i1), (2, v_i i2), (3, v_i i3), (4, v_i i4)] [] s
noncomputable def b_Ta_isBlank_0 (C : c_C) (i0 : Int32) (s : c_S) : c_R := c_run d_CT T_Ta_isBlank L_Ta_isBlank 2 C 0 [(0, v_i i0)] [] s
noncomputable def b_Ta_isMark_0 (C : c_C) (i0 : Int32) (s : c_S) : c_R := c_run d_CT T_Ta_isMark L_Ta_isMark 2 C 0 [(0, v_i i0)] [] s
set_option maxRecDepth 20000 in
theorem e_Ce_mark_0 (C : c_C)  (s : c_S) : b_Ce_mark_0 C  s =
  some (s, s.1 19 5)
  := (c_blk_eq d_CT T_Ce_mark L_Ce_mark 1 C 400 0 [(0, v_r 19)] [] s).trans rfl
theorem m_Ce_mark (d : Nat)  (s : c_S) : c_M (d + 1) 102 [v_r 19] s = b_Ce_mark_0 (c_M d)  s := rfl
set_option maxRecDepth 20000 in
theorem e_Ce_release_0 (C : c_C) (i1 : Int32) (s : c_S) : b_Ce_release_0 C i1 s =
  if i1 < 1 then
    some (s, 0)
  else
    if i1 < s.1 19 5 then
      some ((c_put s 19 5 i1), 0)
    else
      some (s, 0)
  := (c_blk_eq d_CT T_Ce_release L_Ce_release 0 C 400 0 [(0, v_r 19), (1, v_i i1)] [] s).trans rfl
theorem m_Ce_release (d : Nat) (i1 : Int32) (s : c_S) : c_M (d + 1) 103 [v_r 19, v_i i1] s = b_Ce_release_0 (c_M d) i1 s := rfl
set_option maxRecDepth 20000 in
theorem e_Ce_make_0 (C : c_C) (i1 : Int32) (i2 : Int32) (s : c_S) : b_Ce_make_0 C i1 i2 s =
  if s.1 19 5 < 1 then
    b_Ce_make_17 C  s
  else
    if s.1 19 5 < 32768 then
      c_rg (s.1 19 5) 32768 (
        c_rg (s.1 19 5) 32768 (
          c_rg (s.1 19 5) 32768 (
            c_rg (s.1 19 5) 32768 (
              b_Ce_make_71 C (s.1 19 5) (c_put (c_put (c_put (c_put (c_put s 19 5 ((s.1 19 5) + 1)) 20 ((s.1 19 5).toNatClampNeg) i1) 21 ((s.1 19 5).toNatClampNeg) i2) 22 ((s.1 19 5).toNatClampNeg) 0) 23 ((s.1 19 5).toNatClampNeg) 0)))))
    else
      b_Ce_make_17 C  s
  := (c_blk_eq d_CT T_Ce_make L_Ce_make 1 C 400 0 [(0, v_r 19), (1, v_i i1), (2, v_i i2)] [] s).trans rfl
set_option maxRecDepth 20000 in
theorem e_Ce_make_17 (C : c_C)  (s : c_S) : b_Ce_make_17 C  s =
  c_bd (C 165 [v_r 18, v_i 9] s) fun s1 _ =>
  some (s1, 0)
  := (c_blk_eq d_CT T_Ce_make L_Ce_make 1 C 400 17 [(0, v_r 19)] [] s).trans rfl
set_option maxRecDepth 20000 in
theorem e_Ce_make_71 (C : c_C) (i3 : Int32) (s : c_S) : b_Ce_make_71 C i3 s =
  some (s, i3)
  := (c_blk_eq d_CT T_Ce_make L_Ce_make 1 C 400 71 [(3, v_i i3)] [] s).trans rfl
theorem m_Ce_make (d : Nat) (i1 : Int32) (i2 : Int32) (s : c_S) : c_M (d + 1) 104 [v_r 19, v_i i1, v_i i2] s = b_Ce_make_0 (c_M d) i1 i2 s := rfl
set_option maxRecDepth 20000 in
theorem e_Ce_term_0 (C : c_C) (i1 : Int32) (s : c_S) : b_Ce_term_0 C i1 s =
  if i1 < 1 then
    some (s, 0)
  else
    if i1 < 32768 then
      c_rg i1 32768 (
        some (s, s.1 20 i1.toNatClampNeg))
    else
      some (s, 0)
  := (c_blk_eq d_CT T_Ce_term L_Ce_term 1 C 400 0 [(0, v_r 19), (1, v_i i1)] [] s).trans rfl
theorem m_Ce_term (d : Nat) (i1 : Int32) (s : c_S) : c_M (d + 1) 105 [v_r 19, v_i i1] s = b_Ce_term_0 (c_M d) i1 s := rfl
set_option maxRecDepth 20000 in
theorem e_Ce_scope_0 (C : c_C) (i1 : Int32) (s : c_S) : b_Ce_scope_0 C i1 s =
  if i1 < 1 then
    some (s, 0)
  else
    if i1 < 32768 then
      c_rg i1 32768 (
        some (s, s.1 21 i1.toNatClampNeg))
    else
      some (s, 0)
  := (c_blk_eq d_CT T_Ce_scope L_Ce_scope 1 C 400 0 [(0, v_r 19), (1, v_i i1)] [] s).trans rfl
theorem m_Ce_scope (d : Nat) (i1 : Int32) (s : c_S) : c_M (d + 1) 106 [v_r 19, v_i i1] s = b_Ce_scope_0 (c_M d) i1 s := rfl
set_option maxRecDepth 20000 in
theorem e_Ce_next_0 (C : c_C) (i1 : Int32) (s : c_S) : b_Ce_next_0 C i1 s =
  if i1 < 1 then
    some (s, 0)
  else
    if i1 < 32768 then
      c_rg i1 32768 (
        some (s, s.1 22 i1.toNatClampNeg))
    else
      some (s, 0)
  := (c_blk_eq d_CT T_Ce_next L_Ce_next 1 C 400 0 [(0, v_r 19), (1, v_i i1)] [] s).trans rfl
theorem m_Ce_next (d : Nat) (i1 : Int32) (s : c_S) : c_M (d + 1) 107 [v_r 19, v_i i1] s = b_Ce_next_0 (c_M d) i1 s := rfl
set_option maxRecDepth 20000 in
theorem e_Ce_binder_0 (C : c_C) (i1 : Int32) (s : c_S) : b_Ce_binder_0 C i1 s =
  if i1 < 1 then
    some (s, 0)
  else
    if i1 < 32768 then
      c_rg i1 32768 (
        some (s, s.1 23 i1.toNatClampNeg))
    else
      some (s, 0)
  := (c_blk_eq d_CT T_Ce_binder L_Ce_binder 1 C 400 0 [(0, v_r 19), (1, v_i i1)] [] s).trans rfl
theorem m_Ce_binder (d : Nat) (i1 : Int32) (s : c_S) : c_M (d + 1) 108 [v_r 19, v_i i1] s = b_Ce_binder_0 (c_M d) i1 s := rfl
set_option maxRecDepth 20000 in
theorem e_Ce_link_0 (C : c_C) (i1 : Int32) (i2 : Int32) (s : c_S) : b_Ce_link_0 C i1 i2 s =
  if i1 < 1 then
    some (s, 0)
  else
    if i1 < 32768 then
      c_rg i1 32768 (
        some ((c_put s 22 i1.toNatClampNeg i2), 0))
    else
      some (s, 0)
  := (c_blk_eq d_CT T_Ce_link L_Ce_link 0 C 400 0 [(0, v_r 19), (1, v_i i1), (2, v_i i2)] [] s).trans rfl
theorem m_Ce_link (d : Nat) (i1 : Int32) (i2 : Int32) (s : c_S) : c_M (d + 1) 109 [v_r 19, v_i i1, v_i i2] s = b_Ce_link_0 (c_M d) i1 i2 s := rfl
set_option maxRecDepth 20000 in
theorem e_Ce_bind_0 (C : c_C) (i1 : Int32) (i2 : Int32) (i3 : Int32) (s : c_S) : b_Ce_bind_0 C i1 i2 i3 s =
  if i1 < 1 then
    some (s, i1)
  else
    if i1 < 32768 then
      c_rg i1 32768 (
        c_rg i1 32768 (
          some ((c_put (c_put s 22 i1.toNatClampNeg i3) 23 i1.toNatClampNeg i2), i1)))
    else
      some (s, i1)
  := (c_blk_eq d_CT T_Ce_bind L_Ce_bind 1 C 400 0 [(0, v_r 19), (1, v_i i1), (2, v_i i2), (3, v_i i3)] [] s).trans rfl
theorem m_Ce_bind (d : Nat) (i1 : Int32) (i2 : Int32) (i3 : Int32) (s : c_S) : c_M (d + 1) 110 [v_r 19, v_i i1, v_i i2, v_i i3] s = b_Ce_bind_0 (c_M d) i1 i2 i3 s := rfl
set_option maxRecDepth 20000 in
theorem e_Ce_newVariable_0 (C : c_C) (i1 : Int32) (i2 : Int32) (i3 : Int32) (s : c_S) : b_Ce_newVariable_0 C i1 i2 i3 s =
  c_bd (C 104 [v_r 19, v_i i1, v_i i2] s) fun s1 x1 =>
  c_bd (C 109 [v_r 19, v_i x1, v_i i3] s1) fun s2 _ =>
  some (s2, x1)
  := (c_blk_eq d_CT T_Ce_newVariable L_Ce_newVariable 1 C 400 0 [(0, v_r 19), (1, v_i i1), (2, v_i i2), (3, v_i i3)] [] s).trans rfl
theorem m_Ce_newVariable (d : Nat) (i1 : Int32) (i2 : Int32) (i3 : Int32) (s : c_S) : c_M (d + 1) 111 [v_r 19, v_i i1, v_i i2, v_i i3] s = b_Ce_newVariable_0 (c_M d) i1 i2 i3 s := rfl
set_option maxRecDepth 20000 in
theorem e_Ce_numberOf_0 (C : c_C) (i1 : Int32) (s : c_S) : b_Ce_numberOf_0 C i1 s =
  c_bd (C 107 [v_r 19, v_i i1] s) fun s1 x1 =>
  some (s1, x1)
  := (c_blk_eq d_CT T_Ce_numberOf L_Ce_numberOf 1 C 400 0 [(0, v_r 19), (1, v_i i1)] [] s).trans rfl
theorem m_Ce_numberOf (d : Nat) (i1 : Int32) (s : c_S) : c_M (d + 1) 112 [v_r 19, v_i i1] s = b_Ce_numberOf_0 (c_M d) i1 s := rfl
set_option maxRecDepth 20000 in
theorem e_Ce_enter_0 (C : c_C) (i1 : Int32) (i2 : Int32) (i3 : Int32) (s : c_S) : b_Ce_enter_0 C i1 i2 i3 s =
  c_bd (C 104 [v_r 19, v_i (-i3), v_i 0] s) fun s1 x1 =>
  c_bd (C 110 [v_r 19, v_i x1, v_i i1, v_i i2] s1) fun s2 x2 =>
  some (s2, x2)
  := (c_blk_eq d_CT T_Ce_enter L_Ce_enter 1 C 400 0 [(0, v_r 19), (1, v_i i1), (2, v_i i2), (3, v_i i3)] [] s).trans rfl
theorem m_Ce_enter (d : Nat) (i1 : Int32) (i2 : Int32) (i3 : Int32) (s : c_S) : c_M (d + 1) 113 [v_r 19, v_i i1, v_i i2, v_i i3] s = b_Ce_enter_0 (c_M d) i1 i2 i3 s := rfl
set_option maxRecDepth 20000 in
theorem e_Ce_append_0 (C : c_C) (i1 : Int32) (i2 : Int32) (s : c_S) : b_Ce_append_0 C i1 i2 s =
  c_bd (C 104 [v_r 19, v_i (-i2), v_i 0] s) fun s1 x1 =>
  if i1 = 0 then
    some (s1, x1)
  else
    b_Ce_append_20 C i1 x1 i1 0 s1
  := (c_blk_eq d_CT T_Ce_append L_Ce_append 1 C 400 0 [(0, v_r 19), (1, v_i i1), (2, v_i i2)] [] s).trans rfl
set_option maxRecDepth 20000 in
theorem e_Ce_append_20 (C : c_C) (i1 : Int32) (i3 : Int32) (i4 : Int32) (i5 : Int32) (s : c_S) : b_Ce_append_20 C i1 i3 i4 i5 s =
  if i5 < 32768 then
    c_bd (C 107 [v_r 19, v_i i4] s) fun s1 x1 =>
    if x1 = 0 then
      b_Ce_append_50 C i1 i3 i4 s1
    else
      c_bd (C 107 [v_r 19, v_i i4] s1) fun s2 x2 =>
      b_Ce_append_20 C i1 i3 x2 (i5 + 1) s2
  else
    b_Ce_append_50 C i1 i3 i4 s
  := (c_blk_eq d_CT T_Ce_append L_Ce_append 1 C 400 20 [(0, v_r 19), (1, v_i i1), (3, v_i i3), (4, v_i i4), (5, v_i i5)] [] s).trans rfl
set_option maxRecDepth 20000 in
theorem e_Ce_append_50 (C : c_C) (i1 : Int32) (i3 : Int32) (i4 : Int32) (s : c_S) : b_Ce_append_50 C i1 i3 i4 s =
  c_bd (C 109 [v_r 19, v_i i4, v_i i3] s) fun s1 _ =>
  some (s1, i1)
  := (c_blk_eq d_CT T_Ce_append L_Ce_append 1 C 400 50 [(0, v_r 19), (1, v_i i1), (3, v_i i3), (4, v_i i4)] [] s).trans rfl
theorem m_Ce_append (d : Nat) (i1 : Int32) (i2 : Int32) (s : c_S) : c_M (d + 1) 114 [v_r 19, v_i i1, v_i i2] s = b_Ce_append_0 (c_M d) i1 i2 s := rfl
set_option maxRecDepth 20000 in
theorem e_Ce_outward_0 (C : c_C) (i1 : Int32) (i2 : Int32) (s : c_S) : b_Ce_outward_0 C i1 i2 s =
  b_Ce_outward_5 C i2 i1 0 s
  := (c_blk_eq d_CT T_Ce_outward L_Ce_outward 1 C 400 0 [(0, v_r 19), (1, v_i i1), (2, v_i i2)] [] s).trans rfl
set_option maxRecDepth 20000 in
theorem e_Ce_outward_5 (C : c_C) (i2 : Int32) (i3 : Int32) (i4 : Int32) (s : c_S) : b_Ce_outward_5 C i2 i3 i4 s =
  if i4 < i2 then
    if i3 = 0 then
      some (s, i3)
    else
      c_bd (C 107 [v_r 19, v_i i3] s) fun s1 x1 =>
      b_Ce_outward_5 C i2 x1 (i4 + 1) s1
  else
    some (s, i3)
  := (c_blk_eq d_CT T_Ce_outward L_Ce_outward 1 C 400 5 [(0, v_r 19), (2, v_i i2), (3, v_i i3), (4, v_i i4)] [] s).trans rfl
theorem m_Ce_outward (d : Nat) (i1 : Int32) (i2 : Int32) (s : c_S) : c_M (d + 1) 115 [v_r 19, v_i i1, v_i i2] s = b_Ce_outward_0 (c_M d) i1 i2 s := rfl
set_option maxRecDepth 20000 in
theorem e_Me_begin_0 (C : c_C)  (s : c_S) : b_Me_begin_0 C  s =
  some ((c_put (c_put s 18 1 0) 18 2 0), 0)
  := (c_blk_eq d_CT T_Me_begin L_Me_begin 0 C 400 0 [(0, v_r 18)] [] s).trans rfl
theorem m_Me_begin (d : Nat)  (s : c_S) : c_M (d + 1) 161 [v_r 18] s = b_Me_begin_0 (c_M d)  s := rfl
set_option maxRecDepth 20000 in
theorem e_Me_stepsInAll_0 (C : c_C)  (s : c_S) : b_Me_stepsInAll_0 C  s =
  some (s, s.1 18 0)
  := (c_blk_eq d_CT T_Me_stepsInAll L_Me_stepsInAll 1 C 400 0 [(0, v_r 18)] [] s).trans rfl
theorem m_Me_stepsInAll (d : Nat)  (s : c_S) : c_M (d + 1) 162 [v_r 18] s = b_Me_stepsInAll_0 (c_M d)  s := rfl
set_option maxRecDepth 20000 in
theorem e_Me_stepsOfLatest_0 (C : c_C)  (s : c_S) : b_Me_stepsOfLatest_0 C  s =
  some (s, s.1 18 1)
  := (c_blk_eq d_CT T_Me_stepsOfLatest L_Me_stepsOfLatest 1 C 400 0 [(0, v_r 18)] [] s).trans rfl
theorem m_Me_stepsOfLatest (d : Nat)  (s : c_S) : c_M (d + 1) 163 [v_r 18] s = b_Me_stepsOfLatest_0 (c_M d)  s := rfl
set_option maxRecDepth 20000 in
theorem e_Me_trouble_0 (C : c_C)  (s : c_S) : b_Me_trouble_0 C  s =
  some (s, s.1 18 2)
  := (c_blk_eq d_CT T_Me_trouble L_Me_trouble 1 C 400 0 [(0, v_r 18)] [] s).trans rfl
theorem m_Me_trouble (d : Nat)  (s : c_S) : c_M (d + 1) 164 [v_r 18] s = b_Me_trouble_0 (c_M d)  s := rfl
set_option maxRecDepth 20000 in
theorem e_Me_stop_0 (C : c_C) (i1 : Int32) (s : c_S) : b_Me_stop_0 C i1 s =
  if s.1 18 2 = 0 then
    some ((c_put s 18 2 i1), 0)
  else
    some (s, 0)
  := (c_blk_eq d_CT T_Me_stop L_Me_stop 0 C 400 0 [(0, v_r 18), (1, v_i i1)] [] s).trans rfl
theorem m_Me_stop (d : Nat) (i1 : Int32) (s : c_S) : c_M (d + 1) 165 [v_r 18, v_i i1] s = b_Me_stop_0 (c_M d) i1 s := rfl
set_option maxRecDepth 20000 in
theorem e_Me_step_0 (C : c_C)  (s : c_S) : b_Me_step_0 C  s =
  if s.1 18 1 < 20000 then
    if s.1 18 0 < 60000 then
      b_Me_step_25 C  s
    else
      b_Me_step_19 C  s
  else
    b_Me_step_19 C  s
  := (c_blk_eq d_CT T_Me_step L_Me_step 2 C 400 0 [(0, v_r 18)] [] s).trans rfl
set_option maxRecDepth 20000 in
theorem e_Me_step_25 (C : c_C)  (s : c_S) : b_Me_step_25 C  s =
  if s.1 18 2 = 0 then
    some ((c_put (c_put s 18 1 ((s.1 18 1) + 1)) 18 0 ((s.1 18 0) + 1)), 1)
  else
    some (s, 0)
  := (c_blk_eq d_CT T_Me_step L_Me_step 2 C 400 25 [(0, v_r 18)] [] s).trans rfl
set_option maxRecDepth 20000 in
theorem e_Me_step_19 (C : c_C)  (s : c_S) : b_Me_step_19 C  s =
  c_bd (C 165 [v_r 18, v_i 9] s) fun s1 _ =>
  b_Me_step_25 C  s1
  := (c_blk_eq d_CT T_Me_step L_Me_step 2 C 400 19 [(0, v_r 18)] [] s).trans rfl
theorem m_Me_step (d : Nat)  (s : c_S) : c_M (d + 1) 166 [v_r 18] s = b_Me_step_0 (c_M d)  s := rfl
set_option maxRecDepth 20000 in
theorem e_Me_question_0 (C : c_C) (i1 : Int32) (s : c_S) : b_Me_question_0 C i1 s =
  if (100 : Int32) < i1 then
    c_bd (C 165 [v_r 18, v_i 10] s) fun s1 _ =>
    b_Me_question_12 C  s1
  else
    b_Me_question_12 C  s
  := (c_blk_eq d_CT T_Me_question L_Me_question 2 C 400 0 [(0, v_r 18), (1, v_i i1)] [] s).trans rfl
set_option maxRecDepth 20000 in
theorem e_Me_question_12 (C : c_C)  (s : c_S) : b_Me_question_12 C  s =
  c_bd (C 166 [v_r 18] s) fun s1 x1 =>
  if c_bz x1 = true then some (s1, x1) else none
  := (c_blk_eq d_CT T_Me_question L_Me_question 2 C 400 12 [(0, v_r 18)] [] s).trans rfl
theorem m_Me_question (d : Nat) (i1 : Int32) (s : c_S) : c_M (d + 1) 167 [v_r 18, v_i i1] s = b_Me_question_0 (c_M d) i1 s := rfl
set_option maxRecDepth 20000 in
theorem e_No_mark_0 (C : c_C)  (s : c_S) : b_No_mark_0 C  s =
  some (s, s.1 3 7)
  := (c_blk_eq d_CT T_No_mark L_No_mark 1 C 400 0 [(0, v_r 3)] [] s).trans rfl
theorem m_No_mark (d : Nat)  (s : c_S) : c_M (d + 1) 168 [v_r 3] s = b_No_mark_0 (c_M d)  s := rfl
set_option maxRecDepth 20000 in
theorem e_No_release_0 (C : c_C) (i1 : Int32) (s : c_S) : b_No_release_0 C i1 s =
  if i1 < 1 then
    some (s, 0)
  else
    if i1 < s.1 3 7 then
      some ((c_put s 3 7 i1), 0)
    else
      some (s, 0)
  := (c_blk_eq d_CT T_No_release L_No_release 0 C 400 0 [(0, v_r 3), (1, v_i i1)] [] s).trans rfl
theorem m_No_release (d : Nat) (i1 : Int32) (s : c_S) : c_M (d + 1) 169 [v_r 3, v_i i1] s = b_No_release_0 (c_M d) i1 s := rfl
set_option maxRecDepth 20000 in
theorem e_No_full_0 (C : c_C)  (s : c_S) : b_No_full_0 C  s =
  if s.1 3 7 < 12800 then
    some (s, 0)
  else
    some (s, 1)
  := (c_blk_eq d_CT T_No_full L_No_full 2 C 400 0 [(0, v_r 3)] [] s).trans rfl
theorem m_No_full (d : Nat)  (s : c_S) : c_M (d + 1) 170 [v_r 3] s = b_No_full_0 (c_M d)  s := rfl
set_option maxRecDepth 20000 in
theorem e_No_make_0 (C : c_C) (i1 : Int32) (i2 : Int32) (i3 : Int32) (i4 : Int32) (i5 : Int32) (s : c_S) : b_No_make_0 C i1 i2 i3 i4 i5 s =
  if s.1 3 7 < 1 then
    some (s, 0)
  else
    if s.1 3 7 < 12800 then
      c_rg (s.1 3 7) 12800 (
        c_rg (s.1 3 7) 12800 (
          c_rg (s.1 3 7) 12800 (
            c_rg (s.1 3 7) 12800 (
              b_No_make_68 C i4 i5 (s.1 3 7) (c_put (c_put (c_put (c_put (c_put s 3 7 ((s.1 3 7) + 1)) 4 ((s.1 3 7).toNatClampNeg) i1) 5 ((s.1 3 7).toNatClampNeg) i2) 6 ((s.1 3 7).toNatClampNeg) i3) 7 ((s.1 3 7).toNatClampNeg) 0)))))
    else
      some (s, 0)
  := (c_blk_eq d_CT T_No_make L_No_make 1 C 400 0 [(0, v_r 3), (1, v_i i1), (2, v_i i2), (3, v_i i3), (4, v_i i4), (5, v_i i5)] [] s).trans rfl
set_option maxRecDepth 20000 in
theorem e_No_make_68 (C : c_C) (i4 : Int32) (i5 : Int32) (i6 : Int32) (s : c_S) : b_No_make_68 C i4 i5 i6 s =
  c_rg i6 12800 (
    c_rg i6 12800 (
      c_rg i6 12800 (
        some ((c_put (c_put (c_put s 8 i6.toNatClampNeg i4) 9 i6.toNatClampNeg i5) 10 i6.toNatClampNeg i5), i6))))
  := (c_blk_eq d_CT T_No_make L_No_make 1 C 400 68 [(0, v_r 3), (4, v_i i4), (5, v_i i5), (6, v_i i6)] [] s).trans rfl
theorem m_No_make (d : Nat) (i1 : Int32) (i2 : Int32) (i3 : Int32) (i4 : Int32) (i5 : Int32) (s : c_S) : c_M (d + 1) 171 [v_r 3, v_i i1, v_i i2, v_i i3, v_i i4, v_i i5] s = b_No_make_0 (c_M d) i1 i2 i3 i4 i5 s := rfl
set_option maxRecDepth 20000 in
theorem e_No_kind_0 (C : c_C) (i1 : Int32) (s : c_S) : b_No_kind_0 C i1 s =
  if (0 : Int32) < i1 then
    if i1 < 12800 then
      c_rg i1 12800 (
        some (s, s.1 4 i1.toNatClampNeg))
    else
      some (s, 0)
  else
    some (s, 0)
  := (c_blk_eq d_CT T_No_kind L_No_kind 1 C 400 0 [(0, v_r 3), (1, v_i i1)] [] s).trans rfl
theorem m_No_kind (d : Nat) (i1 : Int32) (s : c_S) : c_M (d + 1) 172 [v_r 3, v_i i1] s = b_No_kind_0 (c_M d) i1 s := rfl
set_option maxRecDepth 20000 in
theorem e_No_left_0 (C : c_C) (i1 : Int32) (s : c_S) : b_No_left_0 C i1 s =
  if (0 : Int32) < i1 then
    if i1 < 12800 then
      c_rg i1 12800 (
        some (s, s.1 5 i1.toNatClampNeg))
    else
      some (s, 0)
  else
    some (s, 0)
  := (c_blk_eq d_CT T_No_left L_No_left 1 C 400 0 [(0, v_r 3), (1, v_i i1)] [] s).trans rfl
theorem m_No_left (d : Nat) (i1 : Int32) (s : c_S) : c_M (d + 1) 173 [v_r 3, v_i i1] s = b_No_left_0 (c_M d) i1 s := rfl
set_option maxRecDepth 20000 in
theorem e_No_right_0 (C : c_C) (i1 : Int32) (s : c_S) : b_No_right_0 C i1 s =
  if (0 : Int32) < i1 then
    if i1 < 12800 then
      c_rg i1 12800 (
        some (s, s.1 6 i1.toNatClampNeg))
    else
      some (s, 0)
  else
    some (s, 0)
  := (c_blk_eq d_CT T_No_right L_No_right 1 C 400 0 [(0, v_r 3), (1, v_i i1)] [] s).trans rfl
theorem m_No_right (d : Nat) (i1 : Int32) (s : c_S) : c_M (d + 1) 174 [v_r 3, v_i i1] s = b_No_right_0 (c_M d) i1 s := rfl
set_option maxRecDepth 20000 in
theorem e_No_sibling_0 (C : c_C) (i1 : Int32) (s : c_S) : b_No_sibling_0 C i1 s =
  if (0 : Int32) < i1 then
    if i1 < 12800 then
      c_rg i1 12800 (
        some (s, s.1 7 i1.toNatClampNeg))
    else
      some (s, 0)
  else
    some (s, 0)
  := (c_blk_eq d_CT T_No_sibling L_No_sibling 1 C 400 0 [(0, v_r 3), (1, v_i i1)] [] s).trans rfl
theorem m_No_sibling (d : Nat) (i1 : Int32) (s : c_S) : c_M (d + 1) 175 [v_r 3, v_i i1] s = b_No_sibling_0 (c_M d) i1 s := rfl
set_option maxRecDepth 20000 in
theorem e_No_token_0 (C : c_C) (i1 : Int32) (s : c_S) : b_No_token_0 C i1 s =
  if (0 : Int32) < i1 then
    if i1 < 12800 then
      c_rg i1 12800 (
        some (s, s.1 8 i1.toNatClampNeg))
    else
      some (s, 0)
  else
    some (s, 0)
  := (c_blk_eq d_CT T_No_token L_No_token 1 C 400 0 [(0, v_r 3), (1, v_i i1)] [] s).trans rfl
theorem m_No_token (d : Nat) (i1 : Int32) (s : c_S) : c_M (d + 1) 176 [v_r 3, v_i i1] s = b_No_token_0 (c_M d) i1 s := rfl
set_option maxRecDepth 20000 in
theorem e_No_first_0 (C : c_C) (i1 : Int32) (s : c_S) : b_No_first_0 C i1 s =
  if (0 : Int32) < i1 then
    if i1 < 12800 then
      c_rg i1 12800 (
        some (s, s.1 9 i1.toNatClampNeg))
    else
      some (s, 0)
  else
    some (s, 0)
  := (c_blk_eq d_CT T_No_first L_No_first 1 C 400 0 [(0, v_r 3), (1, v_i i1)] [] s).trans rfl
theorem m_No_first (d : Nat) (i1 : Int32) (s : c_S) : c_M (d + 1) 177 [v_r 3, v_i i1] s = b_No_first_0 (c_M d) i1 s := rfl
set_option maxRecDepth 20000 in
theorem e_No_place_0 (C : c_C) (i1 : Int32) (s : c_S) : b_No_place_0 C i1 s =
  if (0 : Int32) < i1 then
    if i1 < 12800 then
      c_rg i1 12800 (
        some (s, s.1 10 i1.toNatClampNeg))
    else
      some (s, 0)
  else
    some (s, 0)
  := (c_blk_eq d_CT T_No_place L_No_place 1 C 400 0 [(0, v_r 3), (1, v_i i1)] [] s).trans rfl
theorem m_No_place (d : Nat) (i1 : Int32) (s : c_S) : c_M (d + 1) 178 [v_r 3, v_i i1] s = b_No_place_0 (c_M d) i1 s := rfl
set_option maxRecDepth 20000 in
theorem e_No_inBrackets_0 (C : c_C) (i1 : Int32) (s : c_S) : b_No_inBrackets_0 C i1 s =
  c_bd (C 178 [v_r 3, v_i i1] s) fun s1 x1 =>
  c_bd (C 177 [v_r 3, v_i i1] s1) fun s2 x2 =>
  if x1 = x2 then
    some (s2, 0)
  else
    some (s2, 1)
  := (c_blk_eq d_CT T_No_inBrackets L_No_inBrackets 2 C 400 0 [(0, v_r 3), (1, v_i i1)] [] s).trans rfl
theorem m_No_inBrackets (d : Nat) (i1 : Int32) (s : c_S) : c_M (d + 1) 179 [v_r 3, v_i i1] s = b_No_inBrackets_0 (c_M d) i1 s := rfl
set_option maxRecDepth 20000 in
theorem e_No_isArrow_0 (C : c_C) (i1 : Int32) (s : c_S) : b_No_isArrow_0 C i1 s =
  c_bd (C 172 [v_r 3, v_i i1] s) fun s1 x1 =>
  if x1 = 2 then
    some (s1, 1)
  else
    if x1 = 3 then
      some (s1, 1)
    else
      some (s1, 0)
  := (c_blk_eq d_CT T_No_isArrow L_No_isArrow 2 C 400 0 [(0, v_r 3), (1, v_i i1)] [] s).trans rfl
theorem m_No_isArrow (d : Nat) (i1 : Int32) (s : c_S) : c_M (d + 1) 180 [v_r 3, v_i i1] s = b_No_isArrow_0 (c_M d) i1 s := rfl
set_option maxRecDepth 20000 in
theorem e_No_setPlace_0 (C : c_C) (i1 : Int32) (i2 : Int32) (s : c_S) : b_No_setPlace_0 C i1 i2 s =
  if (0 : Int32) < i1 then
    if i1 < 12800 then
      c_rg i1 12800 (
        some ((c_put s 10 i1.toNatClampNeg i2), 0))
    else
      some (s, 0)
  else
    some (s, 0)
  := (c_blk_eq d_CT T_No_setPlace L_No_setPlace 0 C 400 0 [(0, v_r 3), (1, v_i i1), (2, v_i i2)] [] s).trans rfl
theorem m_No_setPlace (d : Nat) (i1 : Int32) (i2 : Int32) (s : c_S) : c_M (d + 1) 181 [v_r 3, v_i i1, v_i i2] s = b_No_setPlace_0 (c_M d) i1 i2 s := rfl
set_option maxRecDepth 20000 in
theorem e_No_setSibling_0 (C : c_C) (i1 : Int32) (i2 : Int32) (s : c_S) : b_No_setSibling_0 C i1 i2 s =
  if (0 : Int32) < i1 then
    if i1 < 12800 then
      c_rg i1 12800 (
        some ((c_put s 7 i1.toNatClampNeg i2), 0))
    else
      some (s, 0)
  else
    some (s, 0)
  := (c_blk_eq d_CT T_No_setSibling L_No_setSibling 0 C 400 0 [(0, v_r 3), (1, v_i i1), (2, v_i i2)] [] s).trans rfl
theorem m_No_setSibling (d : Nat) (i1 : Int32) (i2 : Int32) (s : c_S) : c_M (d + 1) 182 [v_r 3, v_i i1, v_i i2] s = b_No_setSibling_0 (c_M d) i1 i2 s := rfl
set_option maxRecDepth 20000 in
theorem e_No_becomeFamily_0 (C : c_C) (i1 : Int32) (i2 : Int32) (s : c_S) : b_No_becomeFamily_0 C i1 i2 s =
  if (0 : Int32) < i1 then
    if i1 < 12800 then
      c_rg i1 12800 (
        c_rg i1 12800 (
          some ((c_put (c_put s 4 i1.toNatClampNeg 8) 5 i1.toNatClampNeg i2), 0)))
    else
      some (s, 0)
  else
    some (s, 0)
  := (c_blk_eq d_CT T_No_becomeFamily L_No_becomeFamily 0 C 400 0 [(0, v_r 3), (1, v_i i1), (2, v_i i2)] [] s).trans rfl
theorem m_No_becomeFamily (d : Nat) (i1 : Int32) (i2 : Int32) (s : c_S) : c_M (d + 1) 183 [v_r 3, v_i i1, v_i i2] s = b_No_becomeFamily_0 (c_M d) i1 i2 s := rfl
set_option maxRecDepth 20000 in
theorem e_Pa_length_0 (C : c_C)  (s : c_S) : b_Pa_length_0 C  s =
  some (s, s.1 24 3)
  := (c_blk_eq d_CT T_Pa_length L_Pa_length 1 C 400 0 [(0, v_r 24)] [] s).trans rfl
theorem m_Pa_length (d : Nat)  (s : c_S) : c_M (d + 1) 184 [v_r 24] s = b_Pa_length_0 (c_M d)  s := rfl
set_option maxRecDepth 20000 in
theorem e_Pa_signAt_0 (C : c_C) (i1 : Int32) (s : c_S) : b_Pa_signAt_0 C i1 s =
  if i1 < 0 then
    some (s, (-1))
  else
    if i1 < s.1 24 3 then
      if i1 < 2000 then
        c_rg i1 2000 (
          some (s, s.1 25 i1.toNatClampNeg))
      else
        some (s, (-1))
    else
      some (s, (-1))
  := (c_blk_eq d_CT T_Pa_signAt L_Pa_signAt 1 C 400 0 [(0, v_r 24), (1, v_i i1)] [] s).trans rfl
theorem m_Pa_signAt (d : Nat) (i1 : Int32) (s : c_S) : c_M (d + 1) 185 [v_r 24, v_i i1] s = b_Pa_signAt_0 (c_M d) i1 s := rfl
set_option maxRecDepth 20000 in
theorem e_Pa_beginDraft_0 (C : c_C)  (s : c_S) : b_Pa_beginDraft_0 C  s =
  some ((c_put s 24 4 0), 0)
  := (c_blk_eq d_CT T_Pa_beginDraft L_Pa_beginDraft 0 C 400 0 [(0, v_r 24)] [] s).trans rfl
theorem m_Pa_beginDraft (d : Nat)  (s : c_S) : c_M (d + 1) 186 [v_r 24] s = b_Pa_beginDraft_0 (c_M d)  s := rfl
set_option maxRecDepth 20000 in
theorem e_Pa_put_0 (C : c_C) (i1 : Int32) (s : c_S) : b_Pa_put_0 C i1 s =
  if s.1 24 4 < 0 then
    b_Pa_put_17 C i1 s
  else
    if s.1 24 4 < 2000 then
      b_Pa_put_26 C i1 s
    else
      b_Pa_put_17 C i1 s
  := (c_blk_eq d_CT T_Pa_put L_Pa_put 0 C 400 0 [(0, v_r 24), (1, v_i i1)] [] s).trans rfl
set_option maxRecDepth 20000 in
theorem e_Pa_put_17 (C : c_C) (i1 : Int32) (s : c_S) : b_Pa_put_17 C i1 s =
  c_bd (C 165 [v_r 18, v_i 11] s) fun s1 _ =>
  b_Pa_put_26 C i1 s1
  := (c_blk_eq d_CT T_Pa_put L_Pa_put 0 C 400 17 [(0, v_r 24), (1, v_i i1)] [] s).trans rfl
set_option maxRecDepth 20000 in
theorem e_Pa_put_26 (C : c_C) (i1 : Int32) (s : c_S) : b_Pa_put_26 C i1 s =
  c_bd (C 164 [v_r 18] s) fun s1 x1 =>
  if x1 = 0 then
    c_rg (s1.1 24 4) 2000 (
      some ((c_put (c_put s1 26 ((s1.1 24 4).toNatClampNeg) (vp_nar .char ((i1.toUInt32 % 65536).toInt32))) 24 4 ((s1.1 24 4) + 1)), 0))
  else
    some (s1, 0)
  := (c_blk_eq d_CT T_Pa_put L_Pa_put 0 C 400 26 [(0, v_r 24), (1, v_i i1)] [] s).trans rfl
theorem m_Pa_put (d : Nat) (i1 : Int32) (s : c_S) : c_M (d + 1) 187 [v_r 24, v_i i1] s = b_Pa_put_0 (c_M d) i1 s := rfl
set_option maxRecDepth 20000 in
theorem e_Pa_keepDraft_0 (C : c_C)  (s : c_S) : b_Pa_keepDraft_0 C  s =
  b_Pa_keepDraft_2 C 0 s
  := (c_blk_eq d_CT T_Pa_keepDraft L_Pa_keepDraft 0 C 400 0 [(0, v_r 24)] [] s).trans rfl
set_option maxRecDepth 20000 in
theorem e_Pa_keepDraft_2 (C : c_C) (i1 : Int32) (s : c_S) : b_Pa_keepDraft_2 C i1 s =
  if i1 < s.1 24 4 then
    if i1 < 2000 then
      c_rg i1 2000 (
        c_rg i1 2000 (
          b_Pa_keepDraft_2 C (i1 + 1) (c_put s 25 i1.toNatClampNeg (vp_nar .char (s.1 26 i1.toNatClampNeg)))))
    else
      some ((c_put s 24 3 (s.1 24 4)), 0)
  else
    some ((c_put s 24 3 (s.1 24 4)), 0)
  := (c_blk_eq d_CT T_Pa_keepDraft L_Pa_keepDraft 0 C 400 2 [(0, v_r 24), (1, v_i i1)] [] s).trans rfl
theorem m_Pa_keepDraft (d : Nat)  (s : c_S) : c_M (d + 1) 188 [v_r 24] s = b_Pa_keepDraft_0 (c_M d)  s := rfl
set_option maxRecDepth 20000 in
theorem e_Ta_append_0 (C : c_C) (j1 : Int64) (s : c_S) : b_Ta_append_0 C j1 s =
  b_Ta_append_3 C j1 56 s
  := (c_blk_eq d_CT T_Ta_append L_Ta_append 0 C 400 0 [(0, v_r 1), (1, v_l j1)] [] s).trans rfl
set_option maxRecDepth 20000 in
theorem e_Ta_append_3 (C : c_C) (j1 : Int64) (i3 : Int32) (s : c_S) : b_Ta_append_3 C j1 i3 s =
  if i3 < 0 then
    some (s, 0)
  else
    if (((j1.toUInt64 >>> ((i3 : Int32).toInt64.toUInt64 &&& Int64.toUInt64 63)).toInt64) &&& 255).toInt32 = 10 then
      b_Ta_append_43 C j1 i3 ((((j1.toUInt64 >>> ((i3 : Int32).toInt64.toUInt64 &&& Int64.toUInt64 63)).toInt64) &&& 255).toInt32) 1 s
    else
      if (((j1.toUInt64 >>> ((i3 : Int32).toInt64.toUInt64 &&& Int64.toUInt64 63)).toInt64) &&& 255).toInt32 < 32 then
        b_Ta_append_43 C j1 i3 ((((j1.toUInt64 >>> ((i3 : Int32).toInt64.toUInt64 &&& Int64.toUInt64 63)).toInt64) &&& 255).toInt32) 0 s
      else
        if (126 : Int32) < (((j1.toUInt64 >>> ((i3 : Int32).toInt64.toUInt64 &&& Int64.toUInt64 63)).toInt64) &&& 255).toInt32 then
          b_Ta_append_43 C j1 i3 ((((j1.toUInt64 >>> ((i3 : Int32).toInt64.toUInt64 &&& Int64.toUInt64 63)).toInt64) &&& 255).toInt32) 0 s
        else
          b_Ta_append_43 C j1 i3 ((((j1.toUInt64 >>> ((i3 : Int32).toInt64.toUInt64 &&& Int64.toUInt64 63)).toInt64) &&& 255).toInt32) 1 s
  := (c_blk_eq d_CT T_Ta_append L_Ta_append 0 C 400 3 [(0, v_r 1), (1, v_l j1), (3, v_i i3)] [] s).trans rfl
set_option maxRecDepth 20000 in
theorem e_Ta_append_43 (C : c_C) (j1 : Int64) (i3 : Int32) (i4 : Int32) (t0 : Int32) (s : c_S) : b_Ta_append_43 C j1 i3 i4 t0 s =
  if t0 = 0 then
    b_Ta_append_3 C j1 (i3 + (-8)) s
  else
    if s.1 1 1 < 0 then
      b_Ta_append_3 C j1 (i3 + (-8)) s
    else
      if s.1 1 1 < 4000 then
        c_rg (s.1 1 1) 4000 (
          b_Ta_append_3 C j1 (i3 + (-8)) (c_put (c_put s 2 ((s.1 1 1).toNatClampNeg) (vp_nar .char ((i4.toUInt32 % 65536).toInt32))) 1 1 ((s.1 1 1) + 1)))
      else
        b_Ta_append_3 C j1 (i3 + (-8)) s
  := (c_blk_eq d_CT T_Ta_append L_Ta_append 0 C 400 43 [(0, v_r 1), (1, v_l j1), (3, v_i i3), (4, v_i i4)] [v_i t0] s).trans rfl
theorem m_Ta_append (d : Nat) (j1 : Int64) (s : c_S) : c_M (d + 1) 212 [v_r 1, v_l j1] s = b_Ta_append_0 (c_M d) j1 s := rfl
set_option maxRecDepth 20000 in
theorem e_Ta_length_0 (C : c_C)  (s : c_S) : b_Ta_length_0 C  s =
  some (s, s.1 1 1)
  := (c_blk_eq d_CT T_Ta_length L_Ta_length 1 C 400 0 [(0, v_r 1)] [] s).trans rfl
theorem m_Ta_length (d : Nat)  (s : c_S) : c_M (d + 1) 213 [v_r 1] s = b_Ta_length_0 (c_M d)  s := rfl
set_option maxRecDepth 20000 in
theorem e_Ta_empty_0 (C : c_C)  (s : c_S) : b_Ta_empty_0 C  s =
  some ((c_put s 1 1 0), 0)
  := (c_blk_eq d_CT T_Ta_empty L_Ta_empty 0 C 400 0 [(0, v_r 1)] [] s).trans rfl
theorem m_Ta_empty (d : Nat)  (s : c_S) : c_M (d + 1) 214 [v_r 1] s = b_Ta_empty_0 (c_M d)  s := rfl
set_option maxRecDepth 20000 in
theorem e_Ta_signAt_0 (C : c_C) (i1 : Int32) (s : c_S) : b_Ta_signAt_0 C i1 s =
  if i1 < 0 then
    some (s, 0)
  else
    if i1 < s.1 1 1 then
      if i1 < 4000 then
        c_rg i1 4000 (
          some (s, s.1 2 i1.toNatClampNeg))
      else
        some (s, 0)
    else
      some (s, 0)
  := (c_blk_eq d_CT T_Ta_signAt L_Ta_signAt 1 C 400 0 [(0, v_r 1), (1, v_i i1)] [] s).trans rfl
theorem m_Ta_signAt (d : Nat) (i1 : Int32) (s : c_S) : c_M (d + 1) 215 [v_r 1, v_i i1] s = b_Ta_signAt_0 (c_M d) i1 s := rfl
set_option maxRecDepth 20000 in
theorem e_Ta_token_0 (C : c_C)  (s : c_S) : b_Ta_token_0 C  s =
  some (s, s.1 1 2)
  := (c_blk_eq d_CT T_Ta_token L_Ta_token 1 C 400 0 [(0, v_r 1)] [] s).trans rfl
theorem m_Ta_token (d : Nat)  (s : c_S) : c_M (d + 1) 216 [v_r 1] s = b_Ta_token_0 (c_M d)  s := rfl
set_option maxRecDepth 20000 in
theorem e_Ta_place_0 (C : c_C)  (s : c_S) : b_Ta_place_0 C  s =
  some (s, s.1 1 3)
  := (c_blk_eq d_CT T_Ta_place L_Ta_place 1 C 400 0 [(0, v_r 1)] [] s).trans rfl
theorem m_Ta_place (d : Nat)  (s : c_S) : c_M (d + 1) 217 [v_r 1] s = b_Ta_place_0 (c_M d)  s := rfl
set_option maxRecDepth 20000 in
theorem e_Ta_wordLength_0 (C : c_C)  (s : c_S) : b_Ta_wordLength_0 C  s =
  some (s, (s.1 1 4) - (s.1 1 3))
  := (c_blk_eq d_CT T_Ta_wordLength L_Ta_wordLength 1 C 400 0 [(0, v_r 1)] [] s).trans rfl
theorem m_Ta_wordLength (d : Nat)  (s : c_S) : c_M (d + 1) 218 [v_r 1] s = b_Ta_wordLength_0 (c_M d)  s := rfl
set_option maxRecDepth 20000 in
theorem e_Ta_atEnd_0 (C : c_C)  (s : c_S) : b_Ta_atEnd_0 C  s =
  if s.1 1 2 = 0 then
    some (s, 1)
  else
    some (s, 0)
  := (c_blk_eq d_CT T_Ta_atEnd L_Ta_atEnd 2 C 400 0 [(0, v_r 1)] [] s).trans rfl
theorem m_Ta_atEnd (d : Nat)  (s : c_S) : c_M (d + 1) 219 [v_r 1] s = b_Ta_atEnd_0 (c_M d)  s := rfl
set_option maxRecDepth 20000 in
theorem e_Ta_rewind_0 (C : c_C)  (s : c_S) : b_Ta_rewind_0 C  s =
  c_bd (C 221 [v_r 1] (c_put s 1 4 0)) fun s1 _ =>
  some (s1, 0)
  := (c_blk_eq d_CT T_Ta_rewind L_Ta_rewind 0 C 400 0 [(0, v_r 1)] [] s).trans rfl
theorem m_Ta_rewind (d : Nat)  (s : c_S) : c_M (d + 1) 220 [v_r 1] s = b_Ta_rewind_0 (c_M d)  s := rfl
set_option maxRecDepth 20000 in
theorem e_Ta_advance_0 (C : c_C)  (s : c_S) : b_Ta_advance_0 C  s =
  b_Ta_advance_5 C (s.1 1 4) s
  := (c_blk_eq d_CT T_Ta_advance L_Ta_advance 0 C 400 0 [(0, v_r 1)] [] s).trans rfl
set_option maxRecDepth 20000 in
theorem e_Ta_advance_5 (C : c_C) (i1 : Int32) (s : c_S) : b_Ta_advance_5 C i1 s =
  if i1 < s.1 1 1 then
    c_bd (C 215 [v_r 1, v_i i1] s) fun s1 x1 =>
    c_bd (C 224 [v_i x1] s1) fun s2 x2 =>
    if x2 = 0 then
      b_Ta_advance_30 C i1 s2
    else
      b_Ta_advance_5 C (i1 + 1) s2
  else
    b_Ta_advance_30 C i1 s
  := (c_blk_eq d_CT T_Ta_advance L_Ta_advance 0 C 400 5 [(0, v_r 1), (1, v_i i1)] [] s).trans rfl
set_option maxRecDepth 20000 in
theorem e_Ta_advance_30 (C : c_C) (i1 : Int32) (s : c_S) : b_Ta_advance_30 C i1 s =
  if i1 < s.1 1 1 then
    c_bd (C 215 [v_r 1, v_i i1] (c_put s 1 3 i1)) fun s1 x1 =>
    c_bd (C 16 [v_i x1] s1) fun s2 x2 =>
    if x2 = 0 then
      c_bd (C 215 [v_r 1, v_i i1] s2) fun s3 x3 =>
      c_bd (C 225 [v_i x3] s3) fun s4 x4 =>
      if x4 = 0 then
        b_Ta_advance_98 C i1 (c_put s4 1 2 3)
      else
        c_bd (C 215 [v_r 1, v_i i1] s4) fun s5 x5 =>
        b_Ta_advance_98 C i1 (c_put s5 1 2 x5)
    else
      c_bd (C 222 [v_r 1] s2) fun s6 _ =>
      some (s6, 0)
  else
    some ((c_put (c_put (c_put s 1 3 i1) 1 2 0) 1 4 i1), 0)
  := (c_blk_eq d_CT T_Ta_advance L_Ta_advance 0 C 400 30 [(0, v_r 1), (1, v_i i1)] [] s).trans rfl
set_option maxRecDepth 20000 in
theorem e_Ta_advance_98 (C : c_C) (i1 : Int32) (s : c_S) : b_Ta_advance_98 C i1 s =
  some ((c_put s 1 4 (i1 + 1)), 0)
  := (c_blk_eq d_CT T_Ta_advance L_Ta_advance 0 C 400 98 [(0, v_r 1), (1, v_i i1)] [] s).trans rfl
theorem m_Ta_advance (d : Nat)  (s : c_S) : c_M (d + 1) 221 [v_r 1] s = b_Ta_advance_0 (c_M d)  s := rfl
set_option maxRecDepth 20000 in
theorem e_Ta_readWord_0 (C : c_C)  (s : c_S) : b_Ta_readWord_0 C  s =
  b_Ta_readWord_5 C (s.1 1 3) s
  := (c_blk_eq d_CT T_Ta_readWord L_Ta_readWord 0 C 400 0 [(0, v_r 1)] [] s).trans rfl
set_option maxRecDepth 20000 in
theorem e_Ta_readWord_5 (C : c_C) (i1 : Int32) (s : c_S) : b_Ta_readWord_5 C i1 s =
  if i1 < s.1 1 1 then
    c_bd (C 215 [v_r 1, v_i i1] s) fun s1 x1 =>
    c_bd (C 16 [v_i x1] s1) fun s2 x2 =>
    if x2 = 0 then
      c_bd (C 215 [v_r 1, v_i i1] s2) fun s3 x3 =>
      c_bd (C 17 [v_i x3] s3) fun s4 x4 =>
      if x4 = 0 then
        b_Ta_readWord_41 C i1 s4
      else
        b_Ta_readWord_5 C (i1 + 1) s4
    else
      b_Ta_readWord_5 C (i1 + 1) s2
  else
    b_Ta_readWord_41 C i1 s
  := (c_blk_eq d_CT T_Ta_readWord L_Ta_readWord 0 C 400 5 [(0, v_r 1), (1, v_i i1)] [] s).trans rfl
set_option maxRecDepth 20000 in
theorem e_Ta_readWord_41 (C : c_C) (i1 : Int32) (s : c_S) : b_Ta_readWord_41 C i1 s =
  if i1 = (s.1 1 3) + 4 then
    c_bd (C 215 [v_r 1, v_i (s.1 1 3)] (c_put s 1 4 i1)) fun s1 x1 =>
    if x1 = 116 then
      c_bd (C 215 [v_r 1, v_i ((s1.1 1 3) + 1)] s1) fun s2 x2 =>
      if x2 = 121 then
        c_bd (C 215 [v_r 1, v_i ((s2.1 1 3) + 2)] s2) fun s3 x3 =>
        if x3 = 112 then
          c_bd (C 215 [v_r 1, v_i ((s3.1 1 3) + 3)] s3) fun s4 x4 =>
          if x4 = 101 then
            b_Ta_readWord_114 C i1 s4
          else
            b_Ta_readWord_118 C i1 s4
        else
          b_Ta_readWord_118 C i1 s3
      else
        b_Ta_readWord_118 C i1 s2
    else
      b_Ta_readWord_118 C i1 s1
  else
    b_Ta_readWord_118 C i1 (c_put s 1 4 i1)
  := (c_blk_eq d_CT T_Ta_readWord L_Ta_readWord 0 C 400 41 [(0, v_r 1), (1, v_i i1)] [] s).trans rfl
set_option maxRecDepth 20000 in
theorem e_Ta_readWord_114 (C : c_C) (i1 : Int32) (s : c_S) : b_Ta_readWord_114 C i1 s =
  b_Ta_readWord_119 C i1 1 s
  := (c_blk_eq d_CT T_Ta_readWord L_Ta_readWord 0 C 400 114 [(0, v_r 1), (1, v_i i1)] [] s).trans rfl
set_option maxRecDepth 20000 in
theorem e_Ta_readWord_118 (C : c_C) (i1 : Int32) (s : c_S) : b_Ta_readWord_118 C i1 s =
  b_Ta_readWord_119 C i1 0 s
  := (c_blk_eq d_CT T_Ta_readWord L_Ta_readWord 0 C 400 118 [(0, v_r 1), (1, v_i i1)] [] s).trans rfl
set_option maxRecDepth 20000 in
theorem e_Ta_readWord_119 (C : c_C) (i1 : Int32) (t0 : Int32) (s : c_S) : b_Ta_readWord_119 C i1 t0 s =
  if (12 : Int32) < i1 - (s.1 1 3) then
    some ((c_put s 1 2 3), 0)
  else
    if t0 = 0 then
      some ((c_put s 1 2 1), 0)
    else
      some ((c_put s 1 2 2), 0)
  := (c_blk_eq d_CT T_Ta_readWord L_Ta_readWord 0 C 400 119 [(0, v_r 1), (1, v_i i1)] [v_i t0] s).trans rfl
theorem m_Ta_readWord (d : Nat)  (s : c_S) : c_M (d + 1) 222 [v_r 1] s = b_Ta_readWord_0 (c_M d)  s := rfl
set_option maxRecDepth 20000 in
theorem e_Ta_sameSigns_0 (C : c_C) (i1 : Int32) (i2 : Int32) (i3 : Int32) (s : c_S) : b_Ta_sameSigns_0 C i1 i2 i3 s =
  b_Ta_sameSigns_3 C i1 i2 i3 0 s
  := (c_blk_eq d_CT T_Ta_sameSigns L_Ta_sameSigns 2 C 400 0 [(0, v_r 1), (1, v_i i1), (2, v_i i2), (3, v_i i3)] [] s).trans rfl
set_option maxRecDepth 20000 in
theorem e_Ta_sameSigns_3 (C : c_C) (i1 : Int32) (i2 : Int32) (i3 : Int32) (i4 : Int32) (s : c_S) : b_Ta_sameSigns_3 C i1 i2 i3 i4 s =
  if i4 < i3 then
    c_bd (C 215 [v_r 1, v_i (i1 + i4)] s) fun s1 x1 =>
    c_bd (C 215 [v_r 1, v_i (i2 + i4)] s1) fun s2 x2 =>
    if x1 = x2 then
      b_Ta_sameSigns_3 C i1 i2 i3 (i4 + 1) s2
    else
      some (s2, 0)
  else
    some (s, 1)
  := (c_blk_eq d_CT T_Ta_sameSigns L_Ta_sameSigns 2 C 400 3 [(0, v_r 1), (1, v_i i1), (2, v_i i2), (3, v_i i3), (4, v_i i4)] [] s).trans rfl
theorem m_Ta_sameSigns (d : Nat) (i1 : Int32) (i2 : Int32) (i3 : Int32) (s : c_S) : c_M (d + 1) 223 [v_r 1, v_i i1, v_i i2, v_i i3] s = b_Ta_sameSigns_0 (c_M d) i1 i2 i3 s := rfl
set_option maxRecDepth 20000 in
theorem e_Ta_isBlank_0 (C : c_C) (i0 : Int32) (s : c_S) : b_Ta_isBlank_0 C i0 s =
  if i0 = 10 then
    some (s, 1)
  else
    if i0 = 32 then
      some (s, 1)
    else
      some (s, 0)
  := (c_blk_eq d_CT T_Ta_isBlank L_Ta_isBlank 2 C 400 0 [(0, v_i i0)] [] s).trans rfl
theorem m_Ta_isBlank (d : Nat) (i0 : Int32) (s : c_S) : c_M (d + 1) 224 [v_i i0] s = b_Ta_isBlank_0 (c_M d) i0 s := rfl
set_option maxRecDepth 20000 in
theorem e_Ta_isMark_0 (C : c_C) (i0 : Int32) (s : c_S) : b_Ta_isMark_0 C i0 s =
  if i0 = 40 then
    some (s, 1)
  else
  if i0 = 41 then
    some (s, 1)
  else
  if i0 = 46 then
    some (s, 1)
  else
  if i0 = 58 then
    some (s, 1)
  else
  if i0 = 59 then
    some (s, 1)
  else
  if i0 = 61 then
    some (s, 1)
  else
  if i0 = 62 then
    some (s, 1)
  else
  if i0 = 91 then
    some (s, 1)
  else
  if i0 = 93 then
    some (s, 1)
  else
  if i0 = 123 then
    some (s, 1)
  else
  if i0 = 125 then
    some (s, 1)
  else
  some (s, 0)
  := (c_blk_eq d_CT T_Ta_isMark L_Ta_isMark 2 C 400 0 [(0, v_i i0)] [] s).trans rfl
theorem m_Ta_isMark (d : Nat) (i0 : Int32) (s : c_S) : c_M (d + 1) 225 [v_i i0] s = b_Ta_isMark_0 (c_M d) i0 s := rfl
