noncomputable def b_Me_stepsInAll_0 (C : c_C)  (s : c_S) : c_R := c_run d_CT T_Me_stepsInAll L_Me_stepsInAll 1 C 0 [(0, v_r 18)] [] s
noncomputable def b_Me_stepsOfLatest_0 (C : c_C)  (s : c_S) : c_R := c_run d_CT T_Me_stepsOfLatest L_Me_stepsOfLatest 1 C 0 [(0, v_r 18)] [] s
noncomputable def b_Pa_signAt_0 (C : c_C) (i1 : Int32) (s : c_S) : c_R := c_run d_CT T_Pa_signAt L_Pa_signAt 1 C 0 [(0, v_r 24), (1, v_i i1)] [] s
noncomputable def b_Ta_append_0 (C : c_C) (j1 : Int64) (s : c_S) : c_R := c_run d_CT T_Ta_append L_Ta_append 0 C 0 [(0, v_r 1), (1, v_l j1)] [] s
noncomputable def b_Ta_append_3 (C : c_C) (j1 : Int64) (i3 : Int32) (s : c_S) : c_R := c_run d_CT T_Ta_append L_Ta_append 0 C 3 [(0, v_r 1), (1, v_l j1), (3, v_i i3)] [] s
noncomputable def b_Ta_append_43 (C : c_C) (j1 : Int64) (i3 : Int32) (i4 : Int32) (t0 : Int32) (s : c_S) : c_R := c_run d_CT T_Ta_append L_Ta_append 0 C 43 [(0, v_r 1), (1, v_l j1), (3, v_i i3), (4, v_i i4)] [v_i t0] s
noncomputable def b_Ta_length_0 (C : c_C)  (s : c_S) : c_R := c_run d_CT T_Ta_length L_Ta_length 1 C 0 [(0, v_r 1)] [] s
theorem e_Me_stepsInAll_0 (C : c_C)  (s : c_S) : b_Me_stepsInAll_0 C  s =
  some (s, s.1 18 0)
  := (c_blk_eq d_CT T_Me_stepsInAll L_Me_stepsInAll 1 C 400 0 [(0, v_r 18)] [] s).trans rfl
theorem m_Me_stepsInAll (d : Nat)  (s : c_S) : c_M (d + 1) 162 [v_r 18] s = b_Me_stepsInAll_0 (c_M d)  s := rfl
theorem e_Me_stepsOfLatest_0 (C : c_C)  (s : c_S) : b_Me_stepsOfLatest_0 C  s =
  some (s, s.1 18 1)
  := (c_blk_eq d_CT T_Me_stepsOfLatest L_Me_stepsOfLatest 1 C 400 0 [(0, v_r 18)] [] s).trans rfl
theorem m_Me_stepsOfLatest (d : Nat)  (s : c_S) : c_M (d + 1) 163 [v_r 18] s = b_Me_stepsOfLatest_0 (c_M d)  s := rfl
theorem e_Pa_signAt_0 (C : c_C) (i1 : Int32) (s : c_S) : b_Pa_signAt_0 C i1 s =
  if i1 < 0 then
    some (s, (-1))
  else
    if i1 < s.1 24 3 then
      if i1 < 2000 then
        c_rg i1 2000 (
          some (s, s.1 25 i1.toNatClampNeg))
      else
        some (s, (-1))
    else
      some (s, (-1))
  := (c_blk_eq d_CT T_Pa_signAt L_Pa_signAt 1 C 400 0 [(0, v_r 24), (1, v_i i1)] [] s).trans rfl
theorem m_Pa_signAt (d : Nat) (i1 : Int32) (s : c_S) : c_M (d + 1) 185 [v_r 24, v_i i1] s = b_Pa_signAt_0 (c_M d) i1 s := rfl
theorem e_Ta_append_0 (C : c_C) (j1 : Int64) (s : c_S) : b_Ta_append_0 C j1 s =
  b_Ta_append_3 C j1 56 s
  := (c_blk_eq d_CT T_Ta_append L_Ta_append 0 C 400 0 [(0, v_r 1), (1, v_l j1)] [] s).trans rfl
theorem e_Ta_append_3 (C : c_C) (j1 : Int64) (i3 : Int32) (s : c_S) : b_Ta_append_3 C j1 i3 s =
  if i3 < 0 then
    some (s, 0)
  else
    if (((j1.toUInt64 >>> ((i3 : Int32).toInt64.toUInt64 &&& Int64.toUInt64 63)).toInt64) &&& 255).toInt32 = 10 then
      b_Ta_append_43 C j1 i3 ((((j1.toUInt64 >>> ((i3 : Int32).toInt64.toUInt64 &&& Int64.toUInt64 63)).toInt64) &&& 255).toInt32) 1 s
    else
      if (((j1.toUInt64 >>> ((i3 : Int32).toInt64.toUInt64 &&& Int64.toUInt64 63)).toInt64) &&& 255).toInt32 < 32 then
        b_Ta_append_43 C j1 i3 ((((j1.toUInt64 >>> ((i3 : Int32).toInt64.toUInt64 &&& Int64.toUInt64 63)).toInt64) &&& 255).toInt32) 0 s
      else
        if (126 : Int32) < (((j1.toUInt64 >>> ((i3 : Int32).toInt64.toUInt64 &&& Int64.toUInt64 63)).toInt64) &&& 255).toInt32 then
          b_Ta_append_43 C j1 i3 ((((j1.toUInt64 >>> ((i3 : Int32).toInt64.toUInt64 &&& Int64.toUInt64 63)).toInt64) &&& 255).toInt32) 0 s
        else
          b_Ta_append_43 C j1 i3 ((((j1.toUInt64 >>> ((i3 : Int32).toInt64.toUInt64 &&& Int64.toUInt64 63)).toInt64) &&& 255).toInt32) 1 s
  := (c_blk_eq d_CT T_Ta_append L_Ta_append 0 C 400 3 [(0, v_r 1), (1, v_l j1), (3, v_i i3)] [] s).trans rfl
theorem e_Ta_append_43 (C : c_C) (j1 : Int64) (i3 : Int32) (i4 : Int32) (t0 : Int32) (s : c_S) : b_Ta_append_43 C j1 i3 i4 t0 s =
  if t0 = 0 then
    b_Ta_append_3 C j1 (i3 + (-8)) s
  else
    if s.1 1 1 < 0 then
      b_Ta_append_3 C j1 (i3 + (-8)) s
    else
      if s.1 1 1 < 4000 then
        c_rg (s.1 1 1) 4000 (
          b_Ta_append_3 C j1 (i3 + (-8)) (c_put (c_put s 2 ((s.1 1 1).toNatClampNeg) (vp_nar .char ((i4.toUInt32 % 65536).toInt32))) 1 1 ((s.1 1 1) + 1)))
      else
        b_Ta_append_3 C j1 (i3 + (-8)) s
  := (c_blk_eq d_CT T_Ta_append L_Ta_append 0 C 400 43 [(0, v_r 1), (1, v_l j1), (3, v_i i3), (4, v_i i4)] [v_i t0] s).trans rfl
theorem m_Ta_append (d : Nat) (j1 : Int64) (s : c_S) : c_M (d + 1) 212 [v_r 1, v_l j1] s = b_Ta_append_0 (c_M d) j1 s := rfl
theorem e_Ta_length_0 (C : c_C)  (s : c_S) : b_Ta_length_0 C  s =
  some (s, s.1 1 1)
  := (c_blk_eq d_CT T_Ta_length L_Ta_length 1 C 400 0 [(0, v_r 1)] [] s).trans rfl
theorem m_Ta_length (d : Nat)  (s : c_S) : c_M (d + 1) 213 [v_r 1] s = b_Ta_length_0 (c_M d)  s := rfl
noncomputable def b_Co_number_0 (C : c_C)  (s : c_S) : c_R := c_run d_CT T_Co_number L_Co_number 1 C 0 [(0, v_r 11)] [] s
noncomputable def b_Co_drop_0 (C : c_C) (i1 : Int32) (s : c_S) : c_R := c_run d_CT T_Co_drop L_Co_drop 0 C 0 [(0, v_r 11), (1, v_i i1)] [] s
theorem e_Co_number_0 (C : c_C)  (s : c_S) : b_Co_number_0 C  s =
  some (s, s.1 11 7)
  := (c_blk_eq d_CT T_Co_number L_Co_number 1 C 400 0 [(0, v_r 11)] [] s).trans rfl
theorem m_Co_number (d : Nat)  (s : c_S) : c_M (d + 1) 130 [v_r 11] s = b_Co_number_0 (c_M d)  s := rfl
theorem e_Co_drop_0 (C : c_C) (i1 : Int32) (s : c_S) : b_Co_drop_0 C i1 s =
  if (0 : Int32) < i1 then
    if (s.1 11 7) - i1 < 0 then
      some (s, 0)
    else
      if (s.1 11 7) - i1 < 100 then
        c_rg ((s.1 11 7) - i1) 100 (
          c_bd (C 169 [v_r 3, v_i (s.1 17 (((s.1 11 7) - i1).toNatClampNeg))] (c_put s 11 7 ((s.1 11 7) - i1))) fun s1 _ =>
          some (s1, 0))
      else
        some (s, 0)
  else
    some (s, 0)
  := (c_blk_eq d_CT T_Co_drop L_Co_drop 0 C 400 0 [(0, v_r 11), (1, v_i i1)] [] s).trans rfl
theorem m_Co_drop (d : Nat) (i1 : Int32) (s : c_S) : c_M (d + 1) 140 [v_r 11, v_i i1] s = b_Co_drop_0 (c_M d) i1 s := rfl
noncomputable def b_Fb_feed_0 (C : c_C) (j1 : Int64) (j3 : Int64) (j5 : Int64) (s : c_S) : c_R := c_run d_CT T_Fb_feed L_Fb_feed 1 C 0 [(0, v_r 0), (1, v_l j1), (3, v_l j3), (5, v_l j5)] [] s
noncomputable def b_Fb_constant_0 (C : c_C) (i1 : Int32) (i2 : Int32) (s : c_S) : c_R := c_run d_CT T_Fb_constant L_Fb_constant 1 C 0 [(0, v_r 0), (1, v_i i1), (2, v_i i2)] [] s
noncomputable def b_Fb_size_0 (C : c_C)  (s : c_S) : c_R := c_run d_CT T_Fb_size L_Fb_size 1 C 0 [(0, v_r 0)] [] s
noncomputable def b_Fb_out_0 (C : c_C) (i1 : Int32) (s : c_S) : c_R := c_run d_CT T_Fb_out L_Fb_out 1 C 0 [(0, v_r 0), (1, v_i i1)] [] s
noncomputable def b_Fb_forget_0 (C : c_C) (i1 : Int32) (s : c_S) : c_R := c_run d_CT T_Fb_forget L_Fb_forget 1 C 0 [(0, v_r 0), (1, v_i i1)] [] s
noncomputable def b_Fb_count_0 (C : c_C) (i1 : Int32) (s : c_S) : c_R := c_run d_CT T_Fb_count L_Fb_count 1 C 0 [(0, v_r 0), (1, v_i i1)] [] s
theorem e_Fb_feed_0 (C : c_C) (j1 : Int64) (j3 : Int64) (j5 : Int64) (s : c_S) : b_Fb_feed_0 C j1 j3 j5 s =
  c_bd (C 212 [v_r 1, v_l j1] s) fun s1 _ =>
  c_bd (C 212 [v_r 1, v_l j3] s1) fun s2 _ =>
  c_bd (C 212 [v_r 1, v_l j5] s2) fun s3 _ =>
  c_bd (C 213 [v_r 1] s3) fun s4 x4 =>
  some (s4, x4)
  := (c_blk_eq d_CT T_Fb_feed L_Fb_feed 1 C 400 0 [(0, v_r 0), (1, v_l j1), (3, v_l j3), (5, v_l j5)] [] s).trans rfl
theorem m_Fb_feed (d : Nat) (j1 : Int64) (j3 : Int64) (j5 : Int64) (s : c_S) : c_M (d + 1) 0 [v_r 0, v_l j1, v_l j3, v_l j5] s = b_Fb_feed_0 (c_M d) j1 j3 j5 s := rfl
theorem e_Fb_constant_0 (C : c_C) (i1 : Int32) (i2 : Int32) (s : c_S) : b_Fb_constant_0 C i1 i2 s =
  if i1 < 0 then
    some (s, (-1))
  else
    c_bd (C 130 [v_r 11] s) fun s1 x1 =>
    if i1 < x1 then
      if i2 = 0 then
        c_bd (C 132 [v_r 11, v_i i1] s1) fun s2 x2 =>
        some (s2, x2)
      else
        if i2 = 1 then
          c_bd (C 135 [v_r 11, v_i i1] s1) fun s3 x3 =>
          some (s3, x3)
        else
          some (s1, (-1))
    else
      some (s1, (-1))
  := (c_blk_eq d_CT T_Fb_constant L_Fb_constant 1 C 400 0 [(0, v_r 0), (1, v_i i1), (2, v_i i2)] [] s).trans rfl
theorem m_Fb_constant (d : Nat) (i1 : Int32) (i2 : Int32) (s : c_S) : c_M (d + 1) 6 [v_r 0, v_i i1, v_i i2] s = b_Fb_constant_0 (c_M d) i1 i2 s := rfl
theorem e_Fb_size_0 (C : c_C)  (s : c_S) : b_Fb_size_0 C  s =
  c_bd (C 184 [v_r 24] s) fun s1 x1 =>
  some (s1, x1)
  := (c_blk_eq d_CT T_Fb_size L_Fb_size 1 C 400 0 [(0, v_r 0)] [] s).trans rfl
theorem m_Fb_size (d : Nat)  (s : c_S) : c_M (d + 1) 7 [v_r 0] s = b_Fb_size_0 (c_M d)  s := rfl
theorem e_Fb_out_0 (C : c_C) (i1 : Int32) (s : c_S) : b_Fb_out_0 C i1 s =
  c_bd (C 185 [v_r 24, v_i i1] s) fun s1 x1 =>
  some (s1, x1)
  := (c_blk_eq d_CT T_Fb_out L_Fb_out 1 C 400 0 [(0, v_r 0), (1, v_i i1)] [] s).trans rfl
theorem m_Fb_out (d : Nat) (i1 : Int32) (s : c_S) : c_M (d + 1) 8 [v_r 0, v_i i1] s = b_Fb_out_0 (c_M d) i1 s := rfl
theorem e_Fb_forget_0 (C : c_C) (i1 : Int32) (s : c_S) : b_Fb_forget_0 C i1 s =
  if i1 < 0 then
    some (s, (-1))
  else
    c_bd (C 130 [v_r 11] s) fun s1 x1 =>
    if x1 < i1 then
      some (s1, (-1))
    else
      c_bd (C 140 [v_r 11, v_i i1] s1) fun s2 _ =>
      c_bd (C 130 [v_r 11] s2) fun s3 x3 =>
      some (s3, x3)
  := (c_blk_eq d_CT T_Fb_forget L_Fb_forget 1 C 400 0 [(0, v_r 0), (1, v_i i1)] [] s).trans rfl
theorem m_Fb_forget (d : Nat) (i1 : Int32) (s : c_S) : c_M (d + 1) 9 [v_r 0, v_i i1] s = b_Fb_forget_0 (c_M d) i1 s := rfl
theorem e_Fb_count_0 (C : c_C) (i1 : Int32) (s : c_S) : b_Fb_count_0 C i1 s =
  if i1 = 0 then
    c_bd (C 130 [v_r 11] s) fun s1 x1 =>
    some (s1, x1)
  else
  if i1 = 1 then
    c_bd (C 162 [v_r 18] s) fun s2 x2 =>
    some (s2, x2)
  else
  if i1 = 2 then
    c_bd (C 163 [v_r 18] s) fun s3 x3 =>
    some (s3, x3)
  else
  if i1 = 3 then
    c_bd (C 213 [v_r 1] s) fun s4 x4 =>
    some (s4, x4)
  else
  some (s, (-1))
  := (c_blk_eq d_CT T_Fb_count L_Fb_count 1 C 400 0 [(0, v_r 0), (1, v_i i1)] [] s).trans rfl
theorem m_Fb_count (d : Nat) (i1 : Int32) (s : c_S) : c_M (d + 1) 10 [v_r 0, v_i i1] s = b_Fb_count_0 (c_M d) i1 s := rfl
noncomputable def b_Rm_feed_0 (C : c_C) (j1 : Int64) (j3 : Int64) (j5 : Int64) (s : c_S) : c_R := c_run d_CT T_Rm_feed L_Rm_feed 1 C 0 [(0, v_r 34), (1, v_l j1), (3, v_l j3), (5, v_l j5)] [] s
noncomputable def b_Rm_lay_0 (C : c_C) (j1 : Int64) (s : c_S) : c_R := c_run d_CT T_Rm_lay L_Rm_lay 0 C 0 [(0, v_r 34), (1, v_l j1)] [] s
noncomputable def b_Rm_lay_3 (C : c_C) (j1 : Int64) (i3 : Int32) (s : c_S) : c_R := c_run d_CT T_Rm_lay L_Rm_lay 0 C 3 [(0, v_r 34), (1, v_l j1), (3, v_i i3)] [] s
noncomputable def b_Rm_lay_38 (C : c_C) (j1 : Int64) (i3 : Int32) (i4 : Int32) (s : c_S) : c_R := c_run d_CT T_Rm_lay L_Rm_lay 0 C 38 [(0, v_r 34), (1, v_l j1), (3, v_i i3), (4, v_i i4)] [] s
noncomputable def b_Rm_constant_0 (C : c_C) (i1 : Int32) (i2 : Int32) (s : c_S) : c_R := c_run d_CT T_Rm_constant L_Rm_constant 1 C 0 [(0, v_r 34), (1, v_i i1), (2, v_i i2)] [] s
noncomputable def b_Rm_constant_38 (C : c_C) (i1 : Int32) (i2 : Int32) (i3 : Int32) (i4 : Int32) (s : c_S) : c_R := c_run d_CT T_Rm_constant L_Rm_constant 1 C 38 [(0, v_r 34), (1, v_i i1), (2, v_i i2), (3, v_i i3), (4, v_i i4)] [] s
noncomputable def b_Rm_size_0 (C : c_C)  (s : c_S) : c_R := c_run d_CT T_Rm_size L_Rm_size 1 C 0 [(0, v_r 34)] [] s
noncomputable def b_Rm_out_0 (C : c_C) (i1 : Int32) (s : c_S) : c_R := c_run d_CT T_Rm_out L_Rm_out 1 C 0 [(0, v_r 34), (1, v_i i1)] [] s
noncomputable def b_Rm_forget_0 (C : c_C) (i1 : Int32) (s : c_S) : c_R := c_run d_CT T_Rm_forget L_Rm_forget 1 C 0 [(0, v_r 34), (1, v_i i1)] [] s
noncomputable def b_Rm_count_0 (C : c_C) (i1 : Int32) (s : c_S) : c_R := c_run d_CT T_Rm_count L_Rm_count 1 C 0 [(0, v_r 34), (1, v_i i1)] [] s
theorem e_Rm_feed_0 (C : c_C) (j1 : Int64) (j3 : Int64) (j5 : Int64) (s : c_S) : b_Rm_feed_0 C j1 j3 j5 s =
  c_bd (C 19 [v_r 34, v_l j1] (c_put s 34 0 0)) fun s1 _ =>
  c_bd (C 19 [v_r 34, v_l j3] s1) fun s2 _ =>
  c_bd (C 19 [v_r 34, v_l j5] s2) fun s3 _ =>
  some (s3, s3.1 34 2)
  := (c_blk_eq d_CT T_Rm_feed L_Rm_feed 1 C 400 0 [(0, v_r 34), (1, v_l j1), (3, v_l j3), (5, v_l j5)] [] s).trans rfl
theorem m_Rm_feed (d : Nat) (j1 : Int64) (j3 : Int64) (j5 : Int64) (s : c_S) : c_M (d + 1) 18 [v_r 34, v_l j1, v_l j3, v_l j5] s = b_Rm_feed_0 (c_M d) j1 j3 j5 s := rfl
theorem e_Rm_lay_0 (C : c_C) (j1 : Int64) (s : c_S) : b_Rm_lay_0 C j1 s =
  b_Rm_lay_3 C j1 56 s
  := (c_blk_eq d_CT T_Rm_lay L_Rm_lay 0 C 400 0 [(0, v_r 34), (1, v_l j1)] [] s).trans rfl
theorem e_Rm_lay_3 (C : c_C) (j1 : Int64) (i3 : Int32) (s : c_S) : b_Rm_lay_3 C j1 i3 s =
  if i3 < 0 then
    some (s, 0)
  else
    if ((j1 >>> ((i3 : Int32).toInt64 &&& 63)).toInt32) &&& 255 = 10 then
      b_Rm_lay_38 C j1 i3 (((j1 >>> ((i3 : Int32).toInt64 &&& 63)).toInt32) &&& 255) s
    else
      if ((j1 >>> ((i3 : Int32).toInt64 &&& 63)).toInt32) &&& 255 < 32 then
        b_Rm_lay_3 C j1 (i3 + (-8)) s
      else
        if (126 : Int32) < ((j1 >>> ((i3 : Int32).toInt64 &&& 63)).toInt32) &&& 255 then
          b_Rm_lay_3 C j1 (i3 + (-8)) s
        else
          b_Rm_lay_38 C j1 i3 (((j1 >>> ((i3 : Int32).toInt64 &&& 63)).toInt32) &&& 255) s
  := (c_blk_eq d_CT T_Rm_lay L_Rm_lay 0 C 400 3 [(0, v_r 34), (1, v_l j1), (3, v_i i3)] [] s).trans rfl
theorem e_Rm_lay_38 (C : c_C) (j1 : Int64) (i3 : Int32) (i4 : Int32) (s : c_S) : b_Rm_lay_38 C j1 i3 i4 s =
  if s.1 34 2 < 4000 then
    c_rg (s.1 34 2) 4000 (
      b_Rm_lay_3 C j1 (i3 + (-8)) (c_put (c_put s 35 ((s.1 34 2).toNatClampNeg) i4) 34 2 ((s.1 34 2) + 1)))
  else
    b_Rm_lay_3 C j1 (i3 + (-8)) s
  := (c_blk_eq d_CT T_Rm_lay L_Rm_lay 0 C 400 38 [(0, v_r 34), (1, v_l j1), (3, v_i i3), (4, v_i i4)] [] s).trans rfl
theorem m_Rm_lay (d : Nat) (j1 : Int64) (s : c_S) : c_M (d + 1) 19 [v_r 34, v_l j1] s = b_Rm_lay_0 (c_M d) j1 s := rfl
theorem e_Rm_constant_0 (C : c_C) (i1 : Int32) (i2 : Int32) (s : c_S) : b_Rm_constant_0 C i1 i2 s =
  if i1 < 0 then
    some ((c_put s 34 0 0), (-1))
  else
    if i1 < s.1 34 21 then
      if i2 < 0 then
        some ((c_put s 34 0 0), (-1))
      else
        if (1 : Int32) < i2 then
          some ((c_put s 34 0 0), (-1))
        else
          c_rg i1 101 (
            b_Rm_constant_38 C i1 i2 0 (s.1 50 i1.toNatClampNeg) (c_put s 34 0 0))
    else
      some ((c_put s 34 0 0), (-1))
  := (c_blk_eq d_CT T_Rm_constant L_Rm_constant 1 C 400 0 [(0, v_r 34), (1, v_i i1), (2, v_i i2)] [] s).trans rfl
theorem e_Rm_constant_38 (C : c_C) (i1 : Int32) (i2 : Int32) (i3 : Int32) (i4 : Int32) (s : c_S) : b_Rm_constant_38 C i1 i2 i3 i4 s =
  c_rg i4 136000 (
    if s.1 40 i4.toNatClampNeg = 5 then
      c_rg i4 136000 (
        b_Rm_constant_38 C i1 i2 (i3 + 1) (s.1 42 i4.toNatClampNeg) s)
    else
      if i2 = 1 then
        some (s, i3)
      else
        c_rg i1 101 (
          if s.1 49 i1.toNatClampNeg = 0 then
            c_rg i1 101 (
              if s.1 51 i1.toNatClampNeg < 0 then
                some (s, 1)
              else
                some (s, 2))
          else
            some (s, 0)))
  := (c_blk_eq d_CT T_Rm_constant L_Rm_constant 1 C 400 38 [(0, v_r 34), (1, v_i i1), (2, v_i i2), (3, v_i i3), (4, v_i i4)] [] s).trans rfl
theorem m_Rm_constant (d : Nat) (i1 : Int32) (i2 : Int32) (s : c_S) : c_M (d + 1) 97 [v_r 34, v_i i1, v_i i2] s = b_Rm_constant_0 (c_M d) i1 i2 s := rfl
theorem e_Rm_size_0 (C : c_C)  (s : c_S) : b_Rm_size_0 C  s =
  some ((c_put s 34 0 0), s.1 34 70)
  := (c_blk_eq d_CT T_Rm_size L_Rm_size 1 C 400 0 [(0, v_r 34)] [] s).trans rfl
theorem m_Rm_size (d : Nat)  (s : c_S) : c_M (d + 1) 98 [v_r 34] s = b_Rm_size_0 (c_M d)  s := rfl
theorem e_Rm_out_0 (C : c_C) (i1 : Int32) (s : c_S) : b_Rm_out_0 C i1 s =
  if i1 < 0 then
    some ((c_put s 34 0 0), (-1))
  else
    if i1 < s.1 34 70 then
      c_rg i1 2000 (
        some ((c_put s 34 0 0), s.1 69 i1.toNatClampNeg))
    else
      some ((c_put s 34 0 0), (-1))
  := (c_blk_eq d_CT T_Rm_out L_Rm_out 1 C 400 0 [(0, v_r 34), (1, v_i i1)] [] s).trans rfl
theorem m_Rm_out (d : Nat) (i1 : Int32) (s : c_S) : c_M (d + 1) 99 [v_r 34, v_i i1] s = b_Rm_out_0 (c_M d) i1 s := rfl
theorem e_Rm_forget_0 (C : c_C) (i1 : Int32) (s : c_S) : b_Rm_forget_0 C i1 s =
  if i1 < 0 then
    some ((c_put s 34 0 0), (-1))
  else
    if s.1 34 21 < i1 then
      some ((c_put s 34 0 0), (-1))
    else
      if (0 : Int32) < i1 then
        c_rg ((s.1 34 21) - i1) 101 (
          some ((c_put (c_put (c_put s 34 0 0) 34 21 ((s.1 34 21) - i1)) 34 16 (s.1 52 (((s.1 34 21) - i1).toNatClampNeg))), (s.1 34 21) - i1))
      else
        some ((c_put (c_put (c_put s 34 0 0) 34 21 ((s.1 34 21) - i1)) 34 16 (s.1 34 16)), (s.1 34 21) - i1)
  := (c_blk_eq d_CT T_Rm_forget L_Rm_forget 1 C 400 0 [(0, v_r 34), (1, v_i i1)] [] s).trans rfl
theorem m_Rm_forget (d : Nat) (i1 : Int32) (s : c_S) : c_M (d + 1) 100 [v_r 34, v_i i1] s = b_Rm_forget_0 (c_M d) i1 s := rfl
theorem e_Rm_count_0 (C : c_C) (i1 : Int32) (s : c_S) : b_Rm_count_0 C i1 s =
  if i1 = 0 then
    some ((c_put s 34 0 0), s.1 34 21)
  else
  if i1 = 1 then
    some ((c_put s 34 0 0), s.1 34 41)
  else
  if i1 = 2 then
    some ((c_put s 34 0 0), s.1 34 42)
  else
  if i1 = 3 then
    some ((c_put s 34 0 0), s.1 34 2)
  else
  some ((c_put s 34 0 0), (-1))
  := (c_blk_eq d_CT T_Rm_count L_Rm_count 1 C 400 0 [(0, v_r 34), (1, v_i i1)] [] s).trans rfl
theorem m_Rm_count (d : Nat) (i1 : Int32) (s : c_S) : c_M (d + 1) 101 [v_r 34, v_i i1] s = b_Rm_count_0 (c_M d) i1 s := rfl

