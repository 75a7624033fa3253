theorem m_Rm_wanted (d : Nat) (i1 : Int32) (i2 : Int32) (i3 : Int32) (i4 : Int32) (i5 : Int32) (s : c_S) : c_M (d + 1) 63 [v_r 34, v_i i1, v_i i2, v_i i3, v_i i4, v_i i5] s = b_Rm_wanted_0 (c_M d) i1 i2 i3 i4 i5 s := rfl
set_option maxRecDepth 20000 in
theorem e_Rm_bind_0 (C : c_C) (i1 : Int32) (s : c_S) : b_Rm_bind_0 C i1 s =
  c_rg i1 136000 (
    c_rg (s.1 34 55) 64 (
      c_rg i1 136000 (
        c_rg (s.1 34 55) 64 (
          c_rg i1 136000 (
            c_bd (C 44 [v_r 34, v_i (s.1 41 i1.toNatClampNeg), v_i (s.1 34 54), v_i 0] (c_put (c_put (c_put s 64 ((s.1 34 55).toNatClampNeg) (s.1 46 i1.toNatClampNeg)) 65 ((s.1 34 55).toNatClampNeg) (s.1 41 i1.toNatClampNeg)) 34 55 ((s.1 34 55) + 1))) fun s1 x1 =>
            c_bd (C 42 [v_r 34, v_i x1, v_i (s1.1 34 54)] s1) fun s2 x2 =>
            some ((c_put s2 34 54 x2), 0))))))
  := (c_blk_eq d_CT T_Rm_bind L_Rm_bind 0 C 400 0 [(0, v_r 34), (1, v_i i1)] [] s).trans rfl
theorem m_Rm_bind (d : Nat) (i1 : Int32) (s : c_S) : c_M (d + 1) 64 [v_r 34, v_i i1] s = b_Rm_bind_0 (c_M d) i1 s := rfl
set_option maxRecDepth 20000 in
theorem e_Rm_unbind_0 (C : c_C)  (s : c_S) : b_Rm_unbind_0 C  s =
  c_rg (s.1 34 54) 400000 (
    some ((c_put (c_put s 34 55 ((s.1 34 55) - 1)) 34 54 (s.1 56 ((s.1 34 54).toNatClampNeg))), 0))
  := (c_blk_eq d_CT T_Rm_unbind L_Rm_unbind 0 C 400 0 [(0, v_r 34)] [] s).trans rfl
theorem m_Rm_unbind (d : Nat)  (s : c_S) : c_M (d + 1) 65 [v_r 34] s = b_Rm_unbind_0 (c_M d)  s := rfl
set_option maxRecDepth 20000 in
theorem e_Rm_find_0 (C : c_C) (i1 : Int32) (s : c_S) : b_Rm_find_0 C i1 s =
  c_rg i1 136000 (
    c_bd (C 46 [v_r 34, v_i (s.1 43 i1.toNatClampNeg)] s) fun s1 _ =>
    if (0 : Int32) < s1.1 34 9 then
      some (s1, 0)
    else
      c_rg i1 136000 (
        b_Rm_find_32 C i1 (s1.1 43 i1.toNatClampNeg) ((s1.1 34 55) - 1) s1))
  := (c_blk_eq d_CT T_Rm_find L_Rm_find 0 C 400 0 [(0, v_r 34), (1, v_i i1)] [] s).trans rfl
set_option maxRecDepth 20000 in
theorem e_Rm_find_32 (C : c_C) (i1 : Int32) (i2 : Int32) (i3 : Int32) (s : c_S) : b_Rm_find_32 C i1 i2 i3 s =
  if i3 < 0 then
    c_bd (C 40 [v_r 34, v_i i2] s) fun s1 x1 =>
    if x1 < 0 then
      c_bd (C 25 [v_r 34, v_i 2, v_i i2] s1) fun s2 _ =>
      some (s2, 0)
    else
      c_rg i1 136000 (
        c_rg i1 136000 (
          some ((c_put (c_put s1 40 i1.toNatClampNeg 3) 41 i1.toNatClampNeg x1), 0)))
  else
    c_rg i3 64 (
      if s.1 64 i3.toNatClampNeg < 0 then
        b_Rm_find_32 C i1 i2 (i3 + (-1)) s
      else
        c_rg (s.1 64 i3.toNatClampNeg) 4002 (
          c_rg i2 4002 (
            if lg_cmp (s.2 38 ((s.1 64 i3.toNatClampNeg).toNatClampNeg)) (s.2 38 i2.toNatClampNeg) = 0 then
              c_rg (s.1 64 i3.toNatClampNeg) 4002 (
                c_rg i2 4002 (
                  if lg_cmp (s.2 39 ((s.1 64 i3.toNatClampNeg).toNatClampNeg)) (s.2 39 i2.toNatClampNeg) = 0 then
                    c_rg i1 136000 (
                      c_rg i1 136000 (
                        some ((c_put (c_put s 40 i1.toNatClampNeg 2) 41 i1.toNatClampNeg (((s.1 34 55) - 1) - i3)), 0)))
                  else
                    b_Rm_find_32 C i1 i2 (i3 + (-1)) s))
            else
              b_Rm_find_32 C i1 i2 (i3 + (-1)) s)))
  := (c_blk_eq d_CT T_Rm_find L_Rm_find 0 C 400 32 [(0, v_r 34), (1, v_i i1), (2, v_i i2), (3, v_i i3)] [] s).trans rfl
theorem m_Rm_find (d : Nat) (i1 : Int32) (s : c_S) : c_M (d + 1) 66 [v_r 34, v_i i1] s = b_Rm_find_0 (c_M d) i1 s := rfl
set_option maxRecDepth 20000 in
theorem e_Rm_isFamilyNode_0 (C : c_C) (i1 : Int32) (s : c_S) : b_Rm_isFamilyNode_0 C i1 s =
  c_rg i1 136000 (
    if s.1 40 i1.toNatClampNeg = 3 then
      c_rg i1 136000 (
        c_rg (s.1 41 i1.toNatClampNeg) 101 (
          if s.1 49 ((s.1 41 i1.toNatClampNeg).toNatClampNeg) = 0 then
            some (s, 0)
          else
            some (s, 1)))
    else
      some (s, 0))
  := (c_blk_eq d_CT T_Rm_isFamilyNode L_Rm_isFamilyNode 2 C 400 0 [(0, v_r 34), (1, v_i i1)] [] s).trans rfl
theorem m_Rm_isFamilyNode (d : Nat) (i1 : Int32) (s : c_S) : c_M (d + 1) 67 [v_r 34, v_i i1] s = b_Rm_isFamilyNode_0 (c_M d) i1 s := rfl
set_option maxRecDepth 20000 in
theorem e_Rm_family_0 (C : c_C) (i1 : Int32) (i2 : Int32) (s : c_S) : b_Rm_family_0 C i1 i2 s =
  if (0 : Int32) < s.1 34 9 then
    some (s, 0)
  else
    c_rg i1 136000 (
      if s.1 40 i1.toNatClampNeg = 1 then
        c_rg i1 136000 (
          c_bd (C 46 [v_r 34, v_i (s.1 43 i1.toNatClampNeg)] s) fun s1 _ =>
          if i2 = 0 then
            c_rg i1 136000 (
              c_bd (C 25 [v_r 34, v_i 6, v_i (s1.1 43 i1.toNatClampNeg)] s1) fun s2 _ =>
              some (s2, 0))
          else
            some (s1, 0))
      else
      if s.1 40 i1.toNatClampNeg = 2 then
        c_bd (C 66 [v_r 34, v_i i1] s) fun s3 _ =>
        if s3.1 34 9 = 0 then
          c_bd (C 67 [v_r 34, v_i i1] s3) fun s4 x4 =>
          if x4 = 0 then
            c_rg i1 136000 (
              c_bd (C 25 [v_r 34, v_i 6, v_i (s4.1 43 i1.toNatClampNeg)] s4) fun s5 _ =>
              b_Rm_family_189 C i1 s5)
          else
            b_Rm_family_189 C i1 s4
        else
          b_Rm_family_189 C i1 s3
      else
      if s.1 40 i1.toNatClampNeg = 3 then
        c_bd (C 66 [v_r 34, v_i i1] s) fun s6 _ =>
        if s6.1 34 9 = 0 then
          c_bd (C 67 [v_r 34, v_i i1] s6) fun s7 x7 =>
          if x7 = 0 then
            c_rg i1 136000 (
              c_bd (C 25 [v_r 34, v_i 6, v_i (s7.1 43 i1.toNatClampNeg)] s7) fun s8 _ =>
              b_Rm_family_189 C i1 s8)
          else
            b_Rm_family_189 C i1 s7
        else
          b_Rm_family_189 C i1 s6
      else
      if s.1 40 i1.toNatClampNeg = 4 then
        c_rg i1 136000 (
          c_bd (C 46 [v_r 34, v_i (s.1 44 i1.toNatClampNeg)] s) fun s9 _ =>
          c_rg i1 136000 (
            c_bd (C 25 [v_r 34, v_i 6, v_i (s9.1 43 i1.toNatClampNeg)] s9) fun s10 _ =>
            some (s10, 0)))
      else
      if s.1 40 i1.toNatClampNeg = 5 then
        c_rg i1 136000 (
          c_bd (C 46 [v_r 34, v_i (s.1 44 i1.toNatClampNeg)] s) fun s11 _ =>
          c_rg i1 136000 (
            c_bd (C 68 [v_r 34, v_i (s11.1 41 i1.toNatClampNeg), v_i 0] s11) fun s12 _ =>
            if s12.1 34 9 = 0 then
              c_bd (C 64 [v_r 34, v_i i1] s12) fun s13 _ =>
              c_rg i1 136000 (
                c_bd (C 68 [v_r 34, v_i (s13.1 42 i1.toNatClampNeg), v_i i2] s13) fun s14 _ =>
                c_bd (C 65 [v_r 34] s14) fun s15 _ =>
                some (s15, 0))
            else
              some (s12, 0)))
      else
      if s.1 40 i1.toNatClampNeg = 6 then
        c_bd (C 69 [v_r 34, v_i i1] s) fun s16 _ =>
        some (s16, 0)
      else
      c_bd (C 66 [v_r 34, v_i i1] s) fun s17 _ =>
      if s17.1 34 9 = 0 then
        c_bd (C 67 [v_r 34, v_i i1] s17) fun s18 x18 =>
        if x18 = 0 then
          c_rg i1 136000 (
            c_bd (C 25 [v_r 34, v_i 6, v_i (s18.1 43 i1.toNatClampNeg)] s18) fun s19 _ =>
            b_Rm_family_189 C i1 s19)
        else
          b_Rm_family_189 C i1 s18
      else
        b_Rm_family_189 C i1 s17)
  := (c_blk_eq d_CT T_Rm_family L_Rm_family 0 C 400 0 [(0, v_r 34), (1, v_i i1), (2, v_i i2)] [] s).trans rfl
set_option maxRecDepth 20000 in
theorem e_Rm_family_189 (C : c_C) (i1 : Int32) (s : c_S) : b_Rm_family_189 C i1 s =
  if s.1 34 9 = 0 then
    c_rg i1 136000 (
      c_rg (s.1 41 i1.toNatClampNeg) 101 (
        c_rg (s.1 50 ((s.1 41 i1.toNatClampNeg).toNatClampNeg)) 136000 (
          if s.1 40 ((s.1 50 ((s.1 41 i1.toNatClampNeg).toNatClampNeg)).toNatClampNeg) = 5 then
            c_rg i1 136000 (
              c_bd (C 25 [v_r 34, v_i 4, v_i (s.1 43 i1.toNatClampNeg)] s) fun s1 _ =>
              some (s1, 0))
          else
            some (s, 0))))
  else
    some (s, 0)
  := (c_blk_eq d_CT T_Rm_family L_Rm_family 0 C 400 189 [(0, v_r 34), (1, v_i i1)] [] s).trans rfl
theorem m_Rm_family (d : Nat) (i1 : Int32) (i2 : Int32) (s : c_S) : c_M (d + 1) 68 [v_r 34, v_i i1, v_i i2] s = b_Rm_family_0 (c_M d) i1 i2 s := rfl
set_option maxRecDepth 20000 in
theorem e_Rm_familyBehind_0 (C : c_C) (i1 : Int32) (s : c_S) : b_Rm_familyBehind_0 C i1 s =
  b_Rm_familyBehind_7 C i1 i1 (s.1 34 59) s
  := (c_blk_eq d_CT T_Rm_familyBehind L_Rm_familyBehind 0 C 400 0 [(0, v_r 34), (1, v_i i1)] [] s).trans rfl
set_option maxRecDepth 20000 in
theorem e_Rm_familyBehind_7 (C : c_C) (i1 : Int32) (i2 : Int32) (i3 : Int32) (s : c_S) : b_Rm_familyBehind_7 C i1 i2 i3 s =
  c_rg i2 136000 (
    if s.1 40 i2.toNatClampNeg = 6 then
      if i2 = i1 then
        b_Rm_familyBehind_32 C i1 i2 i3 s
      else
        c_rg i2 136000 (
          if s.1 45 i2.toNatClampNeg < 0 then
            b_Rm_familyBehind_32 C i1 i2 i3 s
          else
            b_Rm_familyBehind_62 C i1 i2 i3 s)
    else
      b_Rm_familyBehind_62 C i1 i2 i3 s)
  := (c_blk_eq d_CT T_Rm_familyBehind L_Rm_familyBehind 0 C 400 7 [(0, v_r 34), (1, v_i i1), (2, v_i i2), (3, v_i i3)] [] s).trans rfl
set_option maxRecDepth 20000 in
theorem e_Rm_familyBehind_32 (C : c_C) (i1 : Int32) (i2 : Int32) (i3 : Int32) (s : c_S) : b_Rm_familyBehind_32 C i1 i2 i3 s =
  c_rg (s.1 34 59) 700 (
    c_rg i2 136000 (
      b_Rm_familyBehind_7 C i1 (s.1 41 i2.toNatClampNeg) i3 (c_put (c_put s 66 ((s.1 34 59).toNatClampNeg) i2) 34 59 ((s.1 34 59) + 1))))
  := (c_blk_eq d_CT T_Rm_familyBehind L_Rm_familyBehind 0 C 400 32 [(0, v_r 34), (1, v_i i1), (2, v_i i2), (3, v_i i3)] [] s).trans rfl
set_option maxRecDepth 20000 in
theorem e_Rm_familyBehind_62 (C : c_C) (i1 : Int32) (i2 : Int32) (i3 : Int32) (s : c_S) : b_Rm_familyBehind_62 C i1 i2 i3 s =
  c_rg i2 136000 (
    if s.1 45 i2.toNatClampNeg < 0 then
      b_Rm_familyBehind_89 C i2 i3 s
    else
      if i2 = i1 then
        b_Rm_familyBehind_89 C i2 i3 s
      else
        c_rg i2 136000 (
          c_bd (C 25 [v_r 34, v_i 6, v_i (s.1 45 i2.toNatClampNeg)] s) fun s1 _ =>
          some (s1, 0)))
  := (c_blk_eq d_CT T_Rm_familyBehind L_Rm_familyBehind 0 C 400 62 [(0, v_r 34), (1, v_i i1), (2, v_i i2), (3, v_i i3)] [] s).trans rfl
set_option maxRecDepth 20000 in
theorem e_Rm_familyBehind_89 (C : c_C) (i2 : Int32) (i3 : Int32) (s : c_S) : b_Rm_familyBehind_89 C i2 i3 s =
  c_rg i2 136000 (
    if s.1 40 i2.toNatClampNeg = 1 then
      c_rg i2 136000 (
        c_bd (C 46 [v_r 34, v_i (s.1 43 i2.toNatClampNeg)] s) fun s1 _ =>
        c_rg i2 136000 (
          c_bd (C 25 [v_r 34, v_i 6, v_i (s1.1 43 i2.toNatClampNeg)] s1) fun s2 _ =>
          some (s2, 0)))
    else
      c_bd (C 66 [v_r 34, v_i i2] s) fun s3 _ =>
      if s3.1 34 9 = 0 then
        c_bd (C 67 [v_r 34, v_i i2] s3) fun s4 x4 =>
        if x4 = 0 then
          c_rg i2 136000 (
            c_bd (C 25 [v_r 34, v_i 6, v_i (s4.1 43 i2.toNatClampNeg)] s4) fun s5 _ =>
            b_Rm_familyBehind_154 C i2 i3 s5)
        else
          b_Rm_familyBehind_154 C i2 i3 s4
      else
        b_Rm_familyBehind_154 C i2 i3 s3)
  := (c_blk_eq d_CT T_Rm_familyBehind L_Rm_familyBehind 0 C 400 89 [(0, v_r 34), (2, v_i i2), (3, v_i i3)] [] s).trans rfl
set_option maxRecDepth 20000 in
theorem e_Rm_familyBehind_154 (C : c_C) (i2 : Int32) (i3 : Int32) (s : c_S) : b_Rm_familyBehind_154 C i2 i3 s =
  if (0 : Int32) < s.1 34 9 then
    some (s, 0)
  else
    c_rg i2 136000 (
      c_rg (s.1 41 i2.toNatClampNeg) 101 (
        b_Rm_familyBehind_178 C i2 i3 (s.1 50 ((s.1 41 i2.toNatClampNeg).toNatClampNeg)) ((-1)) s))
  := (c_blk_eq d_CT T_Rm_familyBehind L_Rm_familyBehind 0 C 400 154 [(0, v_r 34), (2, v_i i2), (3, v_i i3)] [] s).trans rfl
set_option maxRecDepth 20000 in
theorem e_Rm_familyBehind_178 (C : c_C) (i2 : Int32) (i3 : Int32) (i4 : Int32) (i5 : Int32) (s : c_S) : b_Rm_familyBehind_178 C i2 i3 i4 i5 s =
  if i3 < s.1 34 59 then
    if s.1 34 9 = 0 then
      c_rg ((s.1 34 59) - 1) 700 (
        c_rg (s.1 66 (((s.1 34 59) - 1).toNatClampNeg)) 136000 (
          c_bd (C 46 [v_r 34, v_i (s.1 44 ((s.1 66 (((s.1 34 59) - 1).toNatClampNeg)).toNatClampNeg))] (c_put s 34 59 ((s.1 34 59) - 1))) fun s1 _ =>
          if s1.1 34 9 = 0 then
            c_bd (C 48 [v_r 34, v_i i4, v_i i5] s1) fun s2 x2 =>
            if x2 = 0 then
              b_Rm_familyBehind_245 C i2 i3 i4 i5 (s.1 66 (((s.1 34 59) - 1).toNatClampNeg)) s2
            else
              b_Rm_familyBehind_257 C i2 i3 i4 i5 (s.1 66 (((s.1 34 59) - 1).toNatClampNeg)) s2
          else
            b_Rm_familyBehind_257 C i2 i3 i4 i5 (s.1 66 (((s.1 34 59) - 1).toNatClampNeg)) s1))
    else
      b_Rm_familyBehind_352 C i2 i4 i5 s
  else
    b_Rm_familyBehind_352 C i2 i4 i5 s
  := (c_blk_eq d_CT T_Rm_familyBehind L_Rm_familyBehind 0 C 400 178 [(0, v_r 34), (2, v_i i2), (3, v_i i3), (4, v_i i4), (5, v_i i5)] [] s).trans rfl
set_option maxRecDepth 20000 in
theorem e_Rm_familyBehind_245 (C : c_C) (i2 : Int32) (i3 : Int32) (i4 : Int32) (i5 : Int32) (i6 : Int32) (s : c_S) : b_Rm_familyBehind_245 C i2 i3 i4 i5 i6 s =
  c_rg i6 136000 (
    c_bd (C 25 [v_r 34, v_i 4, v_i (s.1 44 i6.toNatClampNeg)] s) fun s1 _ =>
    b_Rm_familyBehind_257 C i2 i3 i4 i5 i6 s1)
  := (c_blk_eq d_CT T_Rm_familyBehind L_Rm_familyBehind 0 C 400 245 [(0, v_r 34), (2, v_i i2), (3, v_i i3), (4, v_i i4), (5, v_i i5), (6, v_i i6)] [] s).trans rfl
set_option maxRecDepth 20000 in
theorem e_Rm_familyBehind_257 (C : c_C) (i2 : Int32) (i3 : Int32) (i4 : Int32) (i5 : Int32) (i6 : Int32) (s : c_S) : b_Rm_familyBehind_257 C i2 i3 i4 i5 i6 s =
  c_rg i6 136000 (
    c_bd (C 71 [v_r 34, v_i (s.1 42 i6.toNatClampNeg)] s) fun s1 _ =>
    b_Rm_familyBehind_292 C i2 i3 i4 i5 i6 (s.1 34 43) (s.1 34 44) (s.1 34 45) (s.1 34 46) s1)
  := (c_blk_eq d_CT T_Rm_familyBehind L_Rm_familyBehind 0 C 400 257 [(0, v_r 34), (2, v_i i2), (3, v_i i3), (4, v_i i4), (5, v_i i5), (6, v_i i6)] [] s).trans rfl
set_option maxRecDepth 20000 in
theorem e_Rm_familyBehind_352 (C : c_C) (i2 : Int32) (i4 : Int32) (i5 : Int32) (s : c_S) : b_Rm_familyBehind_352 C i2 i4 i5 s =
  if s.1 34 9 = 0 then
    c_bd (C 48 [v_r 34, v_i i4, v_i i5] s) fun s1 x1 =>
    if x1 = 0 then
      some (s1, 0)
    else
      c_rg i2 136000 (
        c_bd (C 25 [v_r 34, v_i 4, v_i (s1.1 43 i2.toNatClampNeg)] s1) fun s2 _ =>
        some (s2, 0))
  else
    some (s, 0)
  := (c_blk_eq d_CT T_Rm_familyBehind L_Rm_familyBehind 0 C 400 352 [(0, v_r 34), (2, v_i i2), (4, v_i i4), (5, v_i i5)] [] s).trans rfl
set_option maxRecDepth 20000 in
theorem e_Rm_familyBehind_292 (C : c_C) (i2 : Int32) (i3 : Int32) (i4 : Int32) (i5 : Int32) (i6 : Int32) (i7 : Int32) (i8 : Int32) (i9 : Int32) (i10 : Int32) (s : c_S) : b_Rm_familyBehind_292 C i2 i3 i4 i5 i6 i7 i8 i9 i10 s =
  if s.1 34 9 = 0 then
    c_rg i6 136000 (
      c_bd (C 63 [v_r 34, v_i (s.1 34 60), v_i (s.1 34 61), v_i i7, v_i i8, v_i (s.1 44 i6.toNatClampNeg)] s) fun s1 _ =>
      c_rg i6 136000 (
        c_bd (C 41 [v_r 34, v_i (s1.1 42 i6.toNatClampNeg), v_i (s1.1 34 54)] s1) fun s2 x2 =>
        c_bd (C 42 [v_r 34, v_i x2, v_i i10] s2) fun s3 x3 =>
        b_Rm_familyBehind_178 C i2 i3 i9 x3 s3))
  else
    b_Rm_familyBehind_178 C i2 i3 i4 i5 s
  := (c_blk_eq d_CT T_Rm_familyBehind L_Rm_familyBehind 0 C 400 292 [(0, v_r 34), (2, v_i i2), (3, v_i i3), (4, v_i i4), (5, v_i i5), (6, v_i i6), (7, v_i i7), (8, v_i i8), (9, v_i i9), (10, v_i i10)] [] s).trans rfl
theorem m_Rm_familyBehind (d : Nat) (i1 : Int32) (s : c_S) : c_M (d + 1) 69 [v_r 34, v_i i1] s = b_Rm_familyBehind_0 (c_M d) i1 s := rfl
set_option maxRecDepth 20000 in
theorem e_Rm_is_0 (C : c_C) (i1 : Int32) (i2 : Int32) (i3 : Int32) (s : c_S) : b_Rm_is_0 C i1 i2 i3 s =
  some ((c_put (c_put (c_put s 34 60 i1) 34 61 i2) 34 62 i3), 0)
  := (c_blk_eq d_CT T_Rm_is L_Rm_is 0 C 400 0 [(0, v_r 34), (1, v_i i1), (2, v_i i2), (3, v_i i3)] [] s).trans rfl
theorem m_Rm_is (d : Nat) (i1 : Int32) (i2 : Int32) (i3 : Int32) (s : c_S) : c_M (d + 1) 70 [v_r 34, v_i i1, v_i i2, v_i i3] s = b_Rm_is_0 (c_M d) i1 i2 i3 s := rfl
set_option maxRecDepth 20000 in
theorem e_Rm_object_0 (C : c_C) (i1 : Int32) (s : c_S) : b_Rm_object_0 C i1 s =
  if (0 : Int32) < s.1 34 9 then
    some (s, 0)
  else
    c_rg i1 136000 (
      if s.1 40 i1.toNatClampNeg = 1 then
        c_rg i1 136000 (
          c_bd (C 46 [v_r 34, v_i (s.1 43 i1.toNatClampNeg)] s) fun s1 _ =>
          c_rg i1 136000 (
            c_bd (C 25 [v_r 34, v_i 6, v_i (s1.1 43 i1.toNatClampNeg)] s1) fun s2 _ =>
            some (s2, 0)))
      else
      if s.1 40 i1.toNatClampNeg = 2 then
        c_bd (C 66 [v_r 34, v_i i1] s) fun s3 _ =>
        c_bd (C 72 [v_r 34, v_i i1] s3) fun s4 _ =>
        some (s4, 0)
      else
      if s.1 40 i1.toNatClampNeg = 3 then
        c_bd (C 66 [v_r 34, v_i i1] s) fun s5 _ =>
        c_bd (C 72 [v_r 34, v_i i1] s5) fun s6 _ =>
        some (s6, 0)
      else
      if s.1 40 i1.toNatClampNeg = 4 then
        c_bd (C 73 [v_r 34, v_i i1] s) fun s7 _ =>
        some (s7, 0)
      else
      if s.1 40 i1.toNatClampNeg = 5 then
        c_rg i1 136000 (
          c_bd (C 46 [v_r 34, v_i (s.1 44 i1.toNatClampNeg)] s) fun s8 _ =>
          c_rg i1 136000 (
            c_bd (C 25 [v_r 34, v_i 6, v_i (s8.1 43 i1.toNatClampNeg)] s8) fun s9 _ =>
            some (s9, 0)))
      else
      if s.1 40 i1.toNatClampNeg = 6 then
        c_bd (C 74 [v_r 34, v_i i1] s) fun s10 _ =>
        some (s10, 0)
      else
      c_bd (C 66 [v_r 34, v_i i1] s) fun s11 _ =>
      c_bd (C 72 [v_r 34, v_i i1] s11) fun s12 _ =>
      some (s12, 0))
  := (c_blk_eq d_CT T_Rm_object L_Rm_object 0 C 400 0 [(0, v_r 34), (1, v_i i1)] [] s).trans rfl
theorem m_Rm_object (d : Nat) (i1 : Int32) (s : c_S) : c_M (d + 1) 71 [v_r 34, v_i i1] s = b_Rm_object_0 (c_M d) i1 s := rfl
set_option maxRecDepth 20000 in
theorem e_Rm_name_0 (C : c_C) (i1 : Int32) (s : c_S) : b_Rm_name_0 C i1 s =
  if (0 : Int32) < s.1 34 9 then
    some (s, 0)
  else
    c_bd (C 67 [v_r 34, v_i i1] s) fun s1 x1 =>
    if x1 = 0 then
      c_rg i1 136000 (
        if s1.1 40 i1.toNatClampNeg = 2 then
          c_rg i1 136000 (
            c_rg i1 136000 (
              c_rg (((s1.1 34 55) - 1) - (s1.1 41 i1.toNatClampNeg)) 64 (
                c_bd (C 31 [v_r 34, v_i 7, v_i ((s1.1 41 i1.toNatClampNeg) + 1), v_i (s1.1 65 ((((s1.1 34 55) - 1) - (s1.1 41 i1.toNatClampNeg)).toNatClampNeg))] s1) fun s2 x2 =>
                b_Rm_name_87 C x2 s2)))
        else
          c_rg i1 136000 (
            c_bd (C 31 [v_r 34, v_i 8, v_i (s1.1 41 i1.toNatClampNeg), v_i ((-1))] s1) fun s3 x3 =>
            b_Rm_name_87 C x3 s3))
    else
      c_rg i1 136000 (
        c_bd (C 25 [v_r 34, v_i 6, v_i (s1.1 43 i1.toNatClampNeg)] s1) fun s4 _ =>
        some (s4, 0))
  := (c_blk_eq d_CT T_Rm_name L_Rm_name 0 C 400 0 [(0, v_r 34), (1, v_i i1)] [] s).trans rfl
set_option maxRecDepth 20000 in
theorem e_Rm_name_87 (C : c_C) (t0 : Int32) (s : c_S) : b_Rm_name_87 C t0 s =
  c_bd (C 70 [v_r 34, v_i t0, v_i (s.1 34 54), v_i t0] s) fun s1 _ =>
  some (s1, 0)
  := (c_blk_eq d_CT T_Rm_name L_Rm_name 0 C 400 87 [(0, v_r 34)] [v_i t0] s).trans rfl
theorem m_Rm_name (d : Nat) (i1 : Int32) (s : c_S) : c_M (d + 1) 72 [v_r 34, v_i i1] s = b_Rm_name_0 (c_M d) i1 s := rfl
set_option maxRecDepth 20000 in
theorem e_Rm_lambda_0 (C : c_C) (i1 : Int32) (s : c_S) : b_Rm_lambda_0 C i1 s =
  c_rg i1 136000 (
    c_bd (C 46 [v_r 34, v_i (s.1 44 i1.toNatClampNeg)] s) fun s1 _ =>
    c_rg i1 136000 (
      c_bd (C 68 [v_r 34, v_i (s1.1 41 i1.toNatClampNeg), v_i 0] s1) fun s2 _ =>
      if (0 : Int32) < s2.1 34 9 then
        some (s2, 0)
      else
        c_bd (C 64 [v_r 34, v_i i1] s2) fun s3 _ =>
        c_rg i1 136000 (
          c_bd (C 71 [v_r 34, v_i (s3.1 42 i1.toNatClampNeg)] s3) fun s4 _ =>
          c_bd (C 65 [v_r 34] s4) fun s5 _ =>
          if s5.1 34 9 = 0 then
            c_rg i1 136000 (
              c_bd (C 31 [v_r 34, v_i 9, v_i (s5.1 41 i1.toNatClampNeg), v_i (s5.1 34 62)] s5) fun s6 x6 =>
              b_Rm_lambda_72 C x6 s6)
          else
            some (s5, 0))))
  := (c_blk_eq d_CT T_Rm_lambda L_Rm_lambda 0 C 400 0 [(0, v_r 34), (1, v_i i1)] [] s).trans rfl
set_option maxRecDepth 20000 in
theorem e_Rm_lambda_72 (C : c_C) (i2 : Int32) (s : c_S) : b_Rm_lambda_72 C i2 s =
  c_bd (C 70 [v_r 34, v_i i2, v_i (s.1 34 54), v_i i2] s) fun s1 _ =>
  some (s1, 0)
  := (c_blk_eq d_CT T_Rm_lambda L_Rm_lambda 0 C 400 72 [(0, v_r 34), (2, v_i i2)] [] s).trans rfl
theorem m_Rm_lambda (d : Nat) (i1 : Int32) (s : c_S) : c_M (d + 1) 73 [v_r 34, v_i i1] s = b_Rm_lambda_0 (c_M d) i1 s := rfl
set_option maxRecDepth 20000 in
theorem e_Rm_objectBehind_0 (C : c_C) (i1 : Int32) (s : c_S) : b_Rm_objectBehind_0 C i1 s =
  b_Rm_objectBehind_7 C i1 (s.1 34 59) s
  := (c_blk_eq d_CT T_Rm_objectBehind L_Rm_objectBehind 0 C 400 0 [(0, v_r 34), (1, v_i i1)] [] s).trans rfl
set_option maxRecDepth 20000 in
theorem e_Rm_objectBehind_7 (C : c_C) (i2 : Int32) (i3 : Int32) (s : c_S) : b_Rm_objectBehind_7 C i2 i3 s =
  c_rg i2 136000 (
    if s.1 40 i2.toNatClampNeg = 6 then
      c_rg (s.1 34 59) 700 (
        c_rg i2 136000 (
          b_Rm_objectBehind_7 C (s.1 41 i2.toNatClampNeg) i3 (c_put (c_put s 66 ((s.1 34 59).toNatClampNeg) i2) 34 59 ((s.1 34 59) + 1))))
    else
      c_bd (C 71 [v_r 34, v_i i2] s) fun s1 _ =>
      b_Rm_objectBehind_53 C i3 s1)
  := (c_blk_eq d_CT T_Rm_objectBehind L_Rm_objectBehind 0 C 400 7 [(0, v_r 34), (2, v_i i2), (3, v_i i3)] [] s).trans rfl
set_option maxRecDepth 20000 in
theorem e_Rm_objectBehind_53 (C : c_C) (i3 : Int32) (s : c_S) : b_Rm_objectBehind_53 C i3 s =
  if i3 < s.1 34 59 then
    if s.1 34 9 = 0 then
      c_rg ((s.1 34 59) - 1) 700 (
        c_bd (C 75 [v_r 34, v_i (s.1 66 (((s.1 34 59) - 1).toNatClampNeg))] (c_put s 34 59 ((s.1 34 59) - 1))) fun s1 _ =>
        b_Rm_objectBehind_53 C i3 s1)
    else
      b_Rm_objectBehind_53 C i3 (c_put s 34 59 ((s.1 34 59) - 1))
  else
    some (s, 0)
  := (c_blk_eq d_CT T_Rm_objectBehind L_Rm_objectBehind 0 C 400 53 [(0, v_r 34), (3, v_i i3)] [] s).trans rfl
theorem m_Rm_objectBehind (d : Nat) (i1 : Int32) (s : c_S) : c_M (d + 1) 74 [v_r 34, v_i i1] s = b_Rm_objectBehind_0 (c_M d) i1 s := rfl
set_option maxRecDepth 20000 in
theorem e_Rm_oneBehind_0 (C : c_C) (i1 : Int32) (s : c_S) : b_Rm_oneBehind_0 C i1 s =
  c_rg i1 136000 (
    c_bd (C 46 [v_r 34, v_i (s.1 44 i1.toNatClampNeg)] s) fun s1 _ =>
    if (0 : Int32) < s1.1 34 9 then
      some (s1, 0)
    else
      c_bd (C 48 [v_r 34, v_i (s1.1 34 60), v_i (s1.1 34 61)] s1) fun s2 x2 =>
      if x2 = 0 then
        c_rg i1 136000 (
          c_bd (C 25 [v_r 34, v_i 8, v_i (s2.1 44 i1.toNatClampNeg)] s2) fun s3 _ =>
          some (s3, 0))
      else
        b_Rm_oneBehind_62 C i1 (s1.1 34 62) (s2.1 34 43) (s2.1 34 44) s2)
  := (c_blk_eq d_CT T_Rm_oneBehind L_Rm_oneBehind 0 C 400 0 [(0, v_r 34), (1, v_i i1)] [] s).trans rfl
set_option maxRecDepth 20000 in
theorem e_Rm_oneBehind_62 (C : c_C) (i1 : Int32) (i2 : Int32) (i3 : Int32) (i4 : Int32) (s : c_S) : b_Rm_oneBehind_62 C i1 i2 i3 i4 s =
  c_rg i1 136000 (
    c_bd (C 71 [v_r 34, v_i (s.1 42 i1.toNatClampNeg)] s) fun s1 _ =>
    if (0 : Int32) < s1.1 34 9 then
      some (s1, 0)
    else
      c_rg i1 136000 (
        c_bd (C 63 [v_r 34, v_i (s1.1 34 60), v_i (s1.1 34 61), v_i i3, v_i i4, v_i (s1.1 44 i1.toNatClampNeg)] s1) fun s2 _ =>
        c_rg i1 136000 (
          c_bd (C 41 [v_r 34, v_i (s2.1 42 i1.toNatClampNeg), v_i (s2.1 34 54)] s2) fun s3 x3 =>
          c_bd (C 42 [v_r 34, v_i x3, v_i (s.1 34 46)] s3) fun s4 x4 =>
          c_rg i1 136000 (
            c_bd (C 31 [v_r 34, v_i 10, v_i i2, v_i (s4.1 42 i1.toNatClampNeg)] s4) fun s5 x5 =>
            c_bd (C 70 [v_r 34, v_i (s.1 34 45), v_i x4, v_i x5] s5) fun s6 _ =>
            some (s6, 0)))))
  := (c_blk_eq d_CT T_Rm_oneBehind L_Rm_oneBehind 0 C 400 62 [(0, v_r 34), (1, v_i i1), (2, v_i i2), (3, v_i i3), (4, v_i i4)] [] s).trans rfl
theorem m_Rm_oneBehind (d : Nat) (i1 : Int32) (s : c_S) : c_M (d + 1) 75 [v_r 34, v_i i1] s = b_Rm_oneBehind_0 (c_M d) i1 s := rfl
set_option maxRecDepth 20000 in
theorem e_Rm_declare_0 (C : c_C)  (s : c_S) : b_Rm_declare_0 C  s =
  c_bd (C 47 [v_r 34] (c_put s 34 0 0)) fun s1 _ =>
  b_Rm_declare_9 C  s1
  := (c_blk_eq d_CT T_Rm_declare L_Rm_declare 1 C 400 0 [(0, v_r 34)] [] s).trans rfl
set_option maxRecDepth 20000 in
theorem e_Rm_declare_9 (C : c_C)  (s : c_S) : b_Rm_declare_9 C  s =
  if s.1 34 9 = 0 then
    c_rg (s.1 34 8) 4002 (
      if s.1 36 ((s.1 34 8).toNatClampNeg) = 0 then
        some (s, s.1 34 9)
      else
        c_bd (C 77 [v_r 34] s) fun s1 _ =>
        b_Rm_declare_9 C  s1)
  else
    some (s, s.1 34 9)
  := (c_blk_eq d_CT T_Rm_declare L_Rm_declare 1 C 400 9 [(0, v_r 34)] [] s).trans rfl
theorem m_Rm_declare (d : Nat)  (s : c_S) : c_M (d + 1) 76 [v_r 34] s = b_Rm_declare_0 (c_M d)  s := rfl
set_option maxRecDepth 20000 in
theorem e_Rm_declaration_0 (C : c_C)  (s : c_S) : b_Rm_declaration_0 C  s =
  c_bd (C 28 [v_r 34] s) fun s1 x1 =>
  if x1 = 0 then
    c_bd (C 25 [v_r 34, v_i 1, v_i (s1.1 34 8)] s1) fun s2 _ =>
    b_Rm_declaration_62 C (s.1 34 8) s2
  else
    c_bd (C 40 [v_r 34, v_i (s.1 34 8)] s1) fun s3 x3 =>
    if x3 < 0 then
      if s3.1 34 21 = 100 then
        c_bd (C 25 [v_r 34, v_i 5, v_i (s3.1 34 8)] s3) fun s4 _ =>
        b_Rm_declaration_62 C (s.1 34 8) s4
      else
        b_Rm_declaration_62 C (s.1 34 8) s3
    else
      c_bd (C 25 [v_r 34, v_i 3, v_i (s3.1 34 8)] s3) fun s5 _ =>
      b_Rm_declaration_62 C (s.1 34 8) s5
  := (c_blk_eq d_CT T_Rm_declaration L_Rm_declaration 0 C 400 0 [(0, v_r 34)] [] s).trans rfl
set_option maxRecDepth 20000 in
theorem e_Rm_declaration_62 (C : c_C) (i1 : Int32) (s : c_S) : b_Rm_declaration_62 C i1 s =
  c_bd (C 29 [v_r 34, v_i 58] (c_put s 34 8 ((s.1 34 8) + 1))) fun s1 _ =>
  c_rg (s1.1 34 21) 101 (
    c_bd (C 34 [v_r 34] (c_put s1 52 ((s1.1 34 21).toNatClampNeg) (s1.1 34 16))) fun s2 x2 =>
    b_Rm_declaration_104 C i1 x2 ((-1)) (s2.1 34 8) s2)
  := (c_blk_eq d_CT T_Rm_declaration L_Rm_declaration 0 C 400 62 [(0, v_r 34), (1, v_i i1)] [] s).trans rfl
set_option maxRecDepth 20000 in
theorem e_Rm_declaration_104 (C : c_C) (i1 : Int32) (i2 : Int32) (i3 : Int32) (i4 : Int32) (s : c_S) : b_Rm_declaration_104 C i1 i2 i3 i4 s =
  c_bd (C 26 [v_r 34, v_i 61] s) fun s1 x1 =>
  if x1 = 0 then
    b_Rm_declaration_138 C i1 i2 i3 i4 x1 s1
  else
    c_bd (C 34 [v_r 34] (c_put s1 34 8 ((s1.1 34 8) + 1))) fun s2 x2 =>
    b_Rm_declaration_138 C i1 i2 x2 ((s1.1 34 8) + 1) x1 s2
  := (c_blk_eq d_CT T_Rm_declaration L_Rm_declaration 0 C 400 104 [(0, v_r 34), (1, v_i i1), (2, v_i i2), (3, v_i i3), (4, v_i i4)] [] s).trans rfl
set_option maxRecDepth 20000 in
theorem e_Rm_declaration_138 (C : c_C) (i1 : Int32) (i2 : Int32) (i3 : Int32) (i4 : Int32) (i5 : Int32) (s : c_S) : b_Rm_declaration_138 C i1 i2 i3 i4 i5 s =
  c_bd (C 29 [v_r 34, v_i 46] s) fun s1 _ =>
  if s1.1 34 9 = 0 then
    if i5 = 0 then
      c_bd (C 68 [v_r 34, v_i i2, v_i 1] (c_put (c_put s1 34 17 120000) 34 59 0)) fun s2 _ =>
      b_Rm_declaration_177 C i1 i2 i3 i4 i5 s2
    else
      c_bd (C 68 [v_r 34, v_i i2, v_i 0] (c_put (c_put s1 34 17 120000) 34 59 0)) fun s3 _ =>
      b_Rm_declaration_177 C i1 i2 i3 i4 i5 s3
  else
    b_Rm_declaration_177 C i1 i2 i3 i4 i5 (c_put (c_put s1 34 17 120000) 34 59 0)
  := (c_blk_eq d_CT T_Rm_declaration L_Rm_declaration 0 C 400 138 [(0, v_r 34), (1, v_i i1), (2, v_i i2), (3, v_i i3), (4, v_i i4), (5, v_i i5)] [] s).trans rfl
set_option maxRecDepth 20000 in
theorem e_Rm_declaration_177 (C : c_C) (i1 : Int32) (i2 : Int32) (i3 : Int32) (i4 : Int32) (i5 : Int32) (s : c_S) : b_Rm_declaration_177 C i1 i2 i3 i4 i5 s =
  if s.1 34 9 = 0 then
    if i5 = 0 then
      b_Rm_declaration_220 C i1 i2 i3 s
    else
      c_bd (C 71 [v_r 34, v_i i3] s) fun s1 _ =>
      if s1.1 34 9 = 0 then
        c_bd (C 63 [v_r 34, v_i (s1.1 34 60), v_i (s1.1 34 61), v_i i2, v_i (s1.1 34 54), v_i i4] s1) fun s2 _ =>
        b_Rm_declaration_220 C i1 i2 i3 s2
      else
        b_Rm_declaration_220 C i1 i2 i3 s1
  else
    b_Rm_declaration_220 C i1 i2 i3 s
  := (c_blk_eq d_CT T_Rm_declaration L_Rm_declaration 0 C 400 177 [(0, v_r 34), (1, v_i i1), (2, v_i i2), (3, v_i i3), (4, v_i i4), (5, v_i i5)] [] s).trans rfl
set_option maxRecDepth 20000 in
theorem e_Rm_declaration_220 (C : c_C) (i1 : Int32) (i2 : Int32) (i3 : Int32) (s : c_S) : b_Rm_declaration_220 C i1 i2 i3 s =
  if (0 : Int32) < s.1 34 9 then
    c_rg (s.1 34 21) 101 (
      some ((c_put s 34 16 (s.1 52 ((s.1 34 21).toNatClampNeg))), 0))
  else
    c_rg i1 4002 (
      c_rg (s.1 34 21) 101 (
        c_rg i1 4002 (
          c_rg (s.1 34 21) 101 (
            c_rg (s.1 34 21) 101 (
              c_rg (s.1 34 21) 101 (
                b_Rm_declaration_294 C i2 (c_put (c_put (c_putL (c_putL s 47 ((s.1 34 21).toNatClampNeg) (s.2 38 i1.toNatClampNeg)) 48 ((s.1 34 21).toNatClampNeg) (s.2 39 i1.toNatClampNeg)) 50 ((s.1 34 21).toNatClampNeg) i2) 51 ((s.1 34 21).toNatClampNeg) i3)))))))
  := (c_blk_eq d_CT T_Rm_declaration L_Rm_declaration 0 C 400 220 [(0, v_r 34), (1, v_i i1), (2, v_i i2), (3, v_i i3)] [] s).trans rfl
set_option maxRecDepth 20000 in
theorem e_Rm_declaration_294 (C : c_C) (i6 : Int32) (s : c_S) : b_Rm_declaration_294 C i6 s =
  c_rg i6 136000 (
    if s.1 40 i6.toNatClampNeg = 5 then
      c_rg i6 136000 (
        b_Rm_declaration_294 C (s.1 42 i6.toNatClampNeg) s)
    else
      c_rg i6 136000 (
        if s.1 40 i6.toNatClampNeg = 1 then
          c_rg (s.1 34 21) 101 (
            some ((c_put (c_put s 49 ((s.1 34 21).toNatClampNeg) (vp_nar .boolean 1)) 34 21 ((s.1 34 21) + 1)), 0))
        else
          c_rg (s.1 34 21) 101 (
            some ((c_put (c_put s 49 ((s.1 34 21).toNatClampNeg) (vp_nar .boolean 0)) 34 21 ((s.1 34 21) + 1)), 0))))
  := (c_blk_eq d_CT T_Rm_declaration L_Rm_declaration 0 C 400 294 [(0, v_r 34), (6, v_i i6)] [] s).trans rfl
theorem m_Rm_declaration (d : Nat)  (s : c_S) : c_M (d + 1) 77 [v_r 34] s = b_Rm_declaration_0 (c_M d)  s := rfl
set_option maxRecDepth 20000 in
theorem e_Rm_say_0 (C : c_C) (i1 : Int32) (s : c_S) : b_Rm_say_0 C i1 s =
  if s.1 34 64 = 2000 then
    some ((c_put s 34 66 1), 0)
  else
    c_rg (s.1 34 64) 2000 (
      some ((c_put (c_put s 67 ((s.1 34 64).toNatClampNeg) i1) 34 64 ((s.1 34 64) + 1)), 0))
  := (c_blk_eq d_CT T_Rm_say L_Rm_say 0 C 400 0 [(0, v_r 34), (1, v_i i1)] [] s).trans rfl
theorem m_Rm_say (d : Nat) (i1 : Int32) (s : c_S) : c_M (d + 1) 78 [v_r 34, v_i i1] s = b_Rm_say_0 (c_M d) i1 s := rfl
set_option maxRecDepth 20000 in
theorem e_Rm_signOf_0 (C : c_C) (i0 : Int32) (s : c_S) : b_Rm_signOf_0 C i0 s =
  if i0 < 27 then
    some (s, ((97 : Int32) + i0) - 1)
  else
    if i0 < 53 then
      some (s, ((65 : Int32) + i0) - 27)
    else
      some (s, ((48 : Int32) + i0) - 53)
  := (c_blk_eq d_CT T_Rm_signOf L_Rm_signOf 1 C 400 0 [(0, v_i i0)] [] s).trans rfl
theorem m_Rm_signOf (d : Nat) (i0 : Int32) (s : c_S) : c_M (d + 1) 79 [v_i i0] s = b_Rm_signOf_0 (c_M d) i0 s := rfl
set_option maxRecDepth 20000 in
theorem e_Rm_sayPart_0 (C : c_C) (j1 : Int64) (s : c_S) : b_Rm_sayPart_0 C j1 s =
  b_Rm_sayPart_2 C j1 1 s
  := (c_blk_eq d_CT T_Rm_sayPart L_Rm_sayPart 0 C 400 0 [(0, v_r 34), (1, v_l j1)] [] s).trans rfl
set_option maxRecDepth 20000 in
theorem e_Rm_sayPart_2 (C : c_C) (j1 : Int64) (j3 : Int64) (s : c_S) : b_Rm_sayPart_2 C j1 j3 s =
  if (0 : Int32) < lg_cmp j3 (j1 / 64) then
    b_Rm_sayPart_24 C j1 j3 j1 s
  else
    b_Rm_sayPart_2 C j1 (j3 * 64) s
  := (c_blk_eq d_CT T_Rm_sayPart L_Rm_sayPart 0 C 400 2 [(0, v_r 34), (1, v_l j1), (3, v_l j3)] [] s).trans rfl
set_option maxRecDepth 20000 in
theorem e_Rm_sayPart_24 (C : c_C) (j1 : Int64) (j3 : Int64) (j5 : Int64) (s : c_S) : b_Rm_sayPart_24 C j1 j3 j5 s =
  if (0 : Int32) < lg_cmp j3 0 then
    if (0 : Int32) < lg_cmp j1 0 then
      if j3 = 0 then none else
      c_bd (C 79 [v_i ((j5 / j3).toInt32)] s) fun s1 x1 =>
      c_bd (C 78 [v_r 34, v_i x1] s1) fun s2 _ =>
      if j3 = 0 then none else
      b_Rm_sayPart_24 C j1 (j3 / 64) (j5 - j5 / j3 * j3) s2
    else
      some (s, 0)
  else
    some (s, 0)
  := (c_blk_eq d_CT T_Rm_sayPart L_Rm_sayPart 0 C 400 24 [(0, v_r 34), (1, v_l j1), (3, v_l j3), (5, v_l j5)] [] s).trans rfl
theorem m_Rm_sayPart (d : Nat) (j1 : Int64) (s : c_S) : c_M (d + 1) 80 [v_r 34, v_l j1] s = b_Rm_sayPart_0 (c_M d) j1 s := rfl
set_option maxRecDepth 20000 in
theorem e_Rm_sayVar_0 (C : c_C) (i1 : Int32) (s : c_S) : b_Rm_sayVar_0 C i1 s =
  b_Rm_sayVar_2 C i1 0 s
  := (c_blk_eq d_CT T_Rm_sayVar L_Rm_sayVar 0 C 400 0 [(0, v_r 34), (1, v_i i1)] [] s).trans rfl
set_option maxRecDepth 20000 in
theorem e_Rm_sayVar_2 (C : c_C) (i1 : Int32) (i2 : Int32) (s : c_S) : b_Rm_sayVar_2 C i1 i2 s =
  if i2 < s.1 34 65 then
    c_bd (C 78 [v_r 34, v_i 120] s) fun s1 _ =>
    b_Rm_sayVar_2 C i1 (i2 + 1) s1
  else
    if (99 : Int32) < i1 then
      c_bd (C 78 [v_r 34, v_i ((48 : Int32) + (i1 / 100))] s) fun s2 _ =>
      b_Rm_sayVar_39 C i1 s2
    else
      b_Rm_sayVar_39 C i1 s
  := (c_blk_eq d_CT T_Rm_sayVar L_Rm_sayVar 0 C 400 2 [(0, v_r 34), (1, v_i i1), (2, v_i i2)] [] s).trans rfl
set_option maxRecDepth 20000 in
theorem e_Rm_sayVar_39 (C : c_C) (i1 : Int32) (s : c_S) : b_Rm_sayVar_39 C i1 s =
  if (9 : Int32) < i1 then
    c_bd (C 78 [v_r 34, v_i ((48 : Int32) + ((i1 / 10) - (i1 / 10) / 10 * 10))] s) fun s1 _ =>
    b_Rm_sayVar_59 C i1 s1
  else
    b_Rm_sayVar_59 C i1 s
  := (c_blk_eq d_CT T_Rm_sayVar L_Rm_sayVar 0 C 400 39 [(0, v_r 34), (1, v_i i1)] [] s).trans rfl
set_option maxRecDepth 20000 in
theorem e_Rm_sayVar_59 (C : c_C) (i1 : Int32) (s : c_S) : b_Rm_sayVar_59 C i1 s =
  c_bd (C 78 [v_r 34, v_i ((48 : Int32) + (i1 - i1 / 10 * 10))] s) fun s1 _ =>
  some (s1, 0)
  := (c_blk_eq d_CT T_Rm_sayVar L_Rm_sayVar 0 C 400 59 [(0, v_r 34), (1, v_i i1)] [] s).trans rfl
theorem m_Rm_sayVar (d : Nat) (i1 : Int32) (s : c_S) : c_M (d + 1) 81 [v_r 34, v_i i1] s = b_Rm_sayVar_0 (c_M d) i1 s := rfl
set_option maxRecDepth 20000 in
theorem e_Rm_countXs_0 (C : c_C)  (s : c_S) : b_Rm_countXs_0 C  s =
  b_Rm_countXs_7 C 1 (c_put s 34 65 1)
  := (c_blk_eq d_CT T_Rm_countXs L_Rm_countXs 0 C 400 0 [(0, v_r 34)] [] s).trans rfl
set_option maxRecDepth 20000 in
theorem e_Rm_countXs_7 (C : c_C) (i1 : Int32) (s : c_S) : b_Rm_countXs_7 C i1 s =
  if i1 = 0 then
    some (s, 0)
  else
    b_Rm_countXs_15 C 0 0 s
  := (c_blk_eq d_CT T_Rm_countXs L_Rm_countXs 0 C 400 7 [(0, v_r 34), (1, v_i i1)] [] s).trans rfl
set_option maxRecDepth 20000 in
theorem e_Rm_countXs_15 (C : c_C) (i1 : Int32) (i2 : Int32) (s : c_S) : b_Rm_countXs_15 C i1 i2 s =
  if i2 < s.1 34 21 then
    if i1 = 0 then
      c_bd (C 83 [v_r 34, v_i i2] s) fun s1 x1 =>
      if x1 = 0 then
        b_Rm_countXs_15 C 0 (i2 + 1) s1
      else
        b_Rm_countXs_15 C 1 (i2 + 1) s1
    else
      b_Rm_countXs_15 C 1 (i2 + 1) s
  else
    if i1 = 0 then
      b_Rm_countXs_7 C i1 (c_put s 34 65 ((s.1 34 65) + 0))
    else
      b_Rm_countXs_7 C i1 (c_put s 34 65 ((s.1 34 65) + 1))
  := (c_blk_eq d_CT T_Rm_countXs L_Rm_countXs 0 C 400 15 [(0, v_r 34), (1, v_i i1), (2, v_i i2)] [] s).trans rfl
theorem m_Rm_countXs (d : Nat)  (s : c_S) : c_M (d + 1) 82 [v_r 34] s = b_Rm_countXs_0 (c_M d)  s := rfl
set_option maxRecDepth 20000 in
theorem e_Rm_isXs_0 (C : c_C) (i1 : Int32) (s : c_S) : b_Rm_isXs_0 C i1 s =
  c_rg i1 101 (
    c_bd (C 84 [v_r 34, v_l (s.2 47 i1.toNatClampNeg)] (c_put s 34 68 0)) fun s1 _ =>
    c_rg i1 101 (
      c_bd (C 84 [v_r 34, v_l (s1.2 48 i1.toNatClampNeg)] s1) fun s2 _ =>
      if s2.1 34 65 < s2.1 34 68 then
        b_Rm_isXs_44 C 1 0 s2
      else
        b_Rm_isXs_44 C 0 0 s2))
  := (c_blk_eq d_CT T_Rm_isXs L_Rm_isXs 2 C 400 0 [(0, v_r 34), (1, v_i i1)] [] s).trans rfl
set_option maxRecDepth 20000 in
theorem e_Rm_isXs_44 (C : c_C) (i2 : Int32) (i3 : Int32) (s : c_S) : b_Rm_isXs_44 C i2 i3 s =
  if i3 < s.1 34 68 then
    if i2 = 0 then
      if c_bz i2 = true then some (s, i2) else none
    else
      if i3 < s.1 34 65 then
        c_rg i3 12 (
          if s.1 68 i3.toNatClampNeg = 24 then
            b_Rm_isXs_44 C 1 (i3 + 1) s
          else
            b_Rm_isXs_44 C 0 (i3 + 1) s)
      else
        c_rg i3 12 (
          if (52 : Int32) < s.1 68 i3.toNatClampNeg then
            b_Rm_isXs_44 C 1 (i3 + 1) s
          else
            b_Rm_isXs_44 C 0 (i3 + 1) s)
  else
    if c_bz i2 = true then some (s, i2) else none
  := (c_blk_eq d_CT T_Rm_isXs L_Rm_isXs 2 C 400 44 [(0, v_r 34), (2, v_i i2), (3, v_i i3)] [] s).trans rfl
theorem m_Rm_isXs (d : Nat) (i1 : Int32) (s : c_S) : c_M (d + 1) 83 [v_r 34, v_i i1] s = b_Rm_isXs_0 (c_M d) i1 s := rfl
set_option maxRecDepth 20000 in
theorem e_Rm_takeLetters_0 (C : c_C) (j1 : Int64) (s : c_S) : b_Rm_takeLetters_0 C j1 s =
  b_Rm_takeLetters_2 C j1 1 s
  := (c_blk_eq d_CT T_Rm_takeLetters L_Rm_takeLetters 0 C 400 0 [(0, v_r 34), (1, v_l j1)] [] s).trans rfl
set_option maxRecDepth 20000 in
theorem e_Rm_takeLetters_2 (C : c_C) (j1 : Int64) (j3 : Int64) (s : c_S) : b_Rm_takeLetters_2 C j1 j3 s =
  if (0 : Int32) < lg_cmp j3 (j1 / 64) then
    b_Rm_takeLetters_24 C j1 j3 j1 s
  else
    b_Rm_takeLetters_2 C j1 (j3 * 64) s
  := (c_blk_eq d_CT T_Rm_takeLetters L_Rm_takeLetters 0 C 400 2 [(0, v_r 34), (1, v_l j1), (3, v_l j3)] [] s).trans rfl
set_option maxRecDepth 20000 in
theorem e_Rm_takeLetters_24 (C : c_C) (j1 : Int64) (j3 : Int64) (j5 : Int64) (s : c_S) : b_Rm_takeLetters_24 C j1 j3 j5 s =
  if (0 : Int32) < lg_cmp j3 0 then
    if (0 : Int32) < lg_cmp j1 0 then
      if j3 = 0 then none else
      c_rg (s.1 34 68) 12 (
        if j3 = 0 then none else
        b_Rm_takeLetters_24 C j1 (j3 / 64) (j5 - j5 / j3 * j3) (c_put (c_put s 68 ((s.1 34 68).toNatClampNeg) ((j5 / j3).toInt32)) 34 68 ((s.1 34 68) + 1)))
    else
      some (s, 0)
  else
    some (s, 0)
  := (c_blk_eq d_CT T_Rm_takeLetters L_Rm_takeLetters 0 C 400 24 [(0, v_r 34), (1, v_l j1), (3, v_l j3), (5, v_l j5)] [] s).trans rfl
theorem m_Rm_takeLetters (d : Nat) (j1 : Int64) (s : c_S) : c_M (d + 1) 84 [v_r 34, v_l j1] s = b_Rm_takeLetters_0 (c_M d) j1 s := rfl
set_option maxRecDepth 20000 in
theorem e_Rm_ended_0 (C : c_C) (i1 : Int32) (s : c_S) : b_Rm_ended_0 C i1 s =
  if i1 = 1 then
    if s.1 34 66 = 0 then
      some (s, i1)
    else
      some (s, 11)
  else
    some (s, i1)
  := (c_blk_eq d_CT T_Rm_ended L_Rm_ended 1 C 400 0 [(0, v_r 34), (1, v_i i1)] [] s).trans rfl
theorem m_Rm_ended (d : Nat) (i1 : Int32) (s : c_S) : c_M (d + 1) 85 [v_r 34, v_i i1] s = b_Rm_ended_0 (c_M d) i1 s := rfl
set_option maxRecDepth 20000 in
theorem e_Rm_tellFamily_0 (C : c_C) (i1 : Int32) (i2 : Int32) (i3 : Int32) (s : c_S) : b_Rm_tellFamily_0 C i1 i2 i3 s =
  c_bd (C 53 [v_r 34] s) fun s1 x1 =>
  if x1 = 1 then
    c_bd (C 48 [v_r 34, v_i i1, v_i i2] s1) fun s2 x2 =>
    if x2 = 0 then
      c_bd (C 56 [v_r 34, v_i (s2.1 34 47), v_i (s2.1 34 48)] s2) fun s3 x3 =>
      b_Rm_tellFamily_162 C i3 x3 s3
    else
      b_Rm_tellFamily_36 C i3 (s2.1 34 43) (s2.1 34 44) s2
  else
    some (s1, x1)
  := (c_blk_eq d_CT T_Rm_tellFamily L_Rm_tellFamily 1 C 400 0 [(0, v_r 34), (1, v_i i1), (2, v_i i2), (3, v_i i3)] [] s).trans rfl
set_option maxRecDepth 20000 in
theorem e_Rm_tellFamily_162 (C : c_C) (i3 : Int32) (i5 : Int32) (s : c_S) : b_Rm_tellFamily_162 C i3 i5 s =
  c_rg (s.1 34 51) 101 (
    c_bd (C 80 [v_r 34, v_l (s.2 47 ((s.1 34 51).toNatClampNeg))] s) fun s1 _ =>
    c_rg (s.1 34 51) 101 (
      c_bd (C 80 [v_r 34, v_l (s1.2 48 ((s.1 34 51).toNatClampNeg))] s1) fun s2 _ =>
      c_bd (C 85 [v_r 34, v_i 1] s2) fun s3 x3 =>
      if x3 = 1 then
        c_rg (s.1 34 51) 101 (
          c_bd (C 87 [v_r 34, v_i (s3.1 50 ((s.1 34 51).toNatClampNeg)), v_i ((-1)), v_i i5, v_i i3] s3) fun s4 x4 =>
          b_Rm_tellFamily_225 C x4 s4)
      else
        b_Rm_tellFamily_225 C x3 s3))
  := (c_blk_eq d_CT T_Rm_tellFamily L_Rm_tellFamily 1 C 400 162 [(0, v_r 34), (3, v_i i3), (5, v_i i5)] [] s).trans rfl
set_option maxRecDepth 20000 in
theorem e_Rm_tellFamily_36 (C : c_C) (i3 : Int32) (i5 : Int32) (i6 : Int32) (s : c_S) : b_Rm_tellFamily_36 C i3 i5 i6 s =
  c_bd (C 78 [v_r 34, v_i 123] s) fun s1 _ =>
  c_bd (C 81 [v_r 34, v_i i3] s1) fun s2 _ =>
  c_bd (C 78 [v_r 34, v_i 58] s2) fun s3 _ =>
  c_bd (C 85 [v_r 34, v_i 1] s3) fun s4 x4 =>
  b_Rm_tellFamily_72 C i3 x4 i5 i6 (s.1 34 45) (s.1 34 46) s4
  := (c_blk_eq d_CT T_Rm_tellFamily L_Rm_tellFamily 1 C 400 36 [(0, v_r 34), (3, v_i i3), (5, v_i i5), (6, v_i i6)] [] s).trans rfl
set_option maxRecDepth 20000 in
theorem e_Rm_tellFamily_225 (C : c_C) (i4 : Int32) (s : c_S) : b_Rm_tellFamily_225 C i4 s =
  some ((c_put s 34 53 ((s.1 34 53) - 1)), i4)
  := (c_blk_eq d_CT T_Rm_tellFamily L_Rm_tellFamily 1 C 400 225 [(0, v_r 34), (4, v_i i4)] [] s).trans rfl
set_option maxRecDepth 20000 in
theorem e_Rm_tellFamily_72 (C : c_C) (i3 : Int32) (i4 : Int32) (i5 : Int32) (i6 : Int32) (i7 : Int32) (i8 : Int32) (s : c_S) : b_Rm_tellFamily_72 C i3 i4 i5 i6 i7 i8 s =
  if i4 = 1 then
    c_bd (C 86 [v_r 34, v_i i5, v_i i6, v_i i3] s) fun s1 x1 =>
    b_Rm_tellFamily_92 C i3 i5 i6 i7 i8 x1 s1
  else
    b_Rm_tellFamily_92 C i3 i5 i6 i7 i8 i4 s
  := (c_blk_eq d_CT T_Rm_tellFamily L_Rm_tellFamily 1 C 400 72 [(0, v_r 34), (3, v_i i3), (4, v_i i4), (5, v_i i5), (6, v_i i6), (7, v_i i7), (8, v_i i8)] [] s).trans rfl
set_option maxRecDepth 20000 in
theorem e_Rm_tellFamily_92 (C : c_C) (i3 : Int32) (i5 : Int32) (i6 : Int32) (i7 : Int32) (i8 : Int32) (t0 : Int32) (s : c_S) : b_Rm_tellFamily_92 C i3 i5 i6 i7 i8 t0 s =
  c_bd (C 78 [v_r 34, v_i 125] s) fun s1 _ =>
  c_bd (C 85 [v_r 34, v_i t0] s1) fun s2 x2 =>
  if x2 = 1 then
    c_bd (C 44 [v_r 34, v_i i5, v_i i6, v_i i3] s2) fun s3 x3 =>
    c_bd (C 42 [v_r 34, v_i x3, v_i i8] s3) fun s4 x4 =>
    c_bd (C 86 [v_r 34, v_i i7, v_i x4, v_i (i3 + 1)] s4) fun s5 x5 =>
    b_Rm_tellFamily_225 C x5 s5
  else
    b_Rm_tellFamily_225 C x2 s2
  := (c_blk_eq d_CT T_Rm_tellFamily L_Rm_tellFamily 1 C 400 92 [(0, v_r 34), (3, v_i i3), (5, v_i i5), (6, v_i i6), (7, v_i i7), (8, v_i i8)] [v_i t0] s).trans rfl
theorem m_Rm_tellFamily (d : Nat) (i1 : Int32) (i2 : Int32) (i3 : Int32) (s : c_S) : c_M (d + 1) 86 [v_r 34, v_i i1, v_i i2, v_i i3] s = b_Rm_tellFamily_0 (c_M d) i1 i2 i3 s := rfl
set_option maxRecDepth 20000 in
theorem e_Rm_tellBehind_0 (C : c_C) (i1 : Int32) (i2 : Int32) (i3 : Int32) (i4 : Int32) (s : c_S) : b_Rm_tellBehind_0 C i1 i2 i3 i4 s =
  b_Rm_tellBehind_12 C i4 i1 i2 1 i3 s
  := (c_blk_eq d_CT T_Rm_tellBehind L_Rm_tellBehind 1 C 400 0 [(0, v_r 34), (1, v_i i1), (2, v_i i2), (3, v_i i3), (4, v_i i4)] [] s).trans rfl
set_option maxRecDepth 20000 in
theorem e_Rm_tellBehind_12 (C : c_C) (i4 : Int32) (i5 : Int32) (i6 : Int32) (i7 : Int32) (i8 : Int32) (s : c_S) : b_Rm_tellBehind_12 C i4 i5 i6 i7 i8 s =
  if i8 < 0 then
    some (s, i7)
  else
    if i7 = 1 then
      c_bd (C 48 [v_r 34, v_i i5, v_i i6] s) fun s1 x1 =>
      b_Rm_tellBehind_45 C i4 i8 (s1.1 34 45) (s1.1 34 46) s1
    else
      some (s, i7)
  := (c_blk_eq d_CT T_Rm_tellBehind L_Rm_tellBehind 1 C 400 12 [(0, v_r 34), (4, v_i i4), (5, v_i i5), (6, v_i i6), (7, v_i i7), (8, v_i i8)] [] s).trans rfl
set_option maxRecDepth 20000 in
theorem e_Rm_tellBehind_45 (C : c_C) (i4 : Int32) (i8 : Int32) (i10 : Int32) (i11 : Int32) (s : c_S) : b_Rm_tellBehind_45 C i4 i8 i10 i11 s =
  c_rg i8 400000 (
    c_bd (C 78 [v_r 34, v_i 32] s) fun s1 _ =>
    c_bd (C 85 [v_r 34, v_i 1] s1) fun s2 x2 =>
    if x2 = 1 then
      c_bd (C 88 [v_r 34, v_i (s.1 57 i8.toNatClampNeg), v_i ((-1)), v_i (s2.1 34 43), v_i (s2.1 34 44), v_i i4, v_i 1] s2) fun s3 x3 =>
      b_Rm_tellBehind_96 C i4 i8 i10 i11 (s.1 57 i8.toNatClampNeg) x3 s3
    else
      b_Rm_tellBehind_96 C i4 i8 i10 i11 (s.1 57 i8.toNatClampNeg) x2 s2)
  := (c_blk_eq d_CT T_Rm_tellBehind L_Rm_tellBehind 1 C 400 45 [(0, v_r 34), (4, v_i i4), (8, v_i i8), (10, v_i i10), (11, v_i i11)] [] s).trans rfl
set_option maxRecDepth 20000 in
theorem e_Rm_tellBehind_96 (C : c_C) (i4 : Int32) (i8 : Int32) (i10 : Int32) (i11 : Int32) (i12 : Int32) (t0 : Int32) (s : c_S) : b_Rm_tellBehind_96 C i4 i8 i10 i11 i12 t0 s =
  c_bd (C 42 [v_r 34, v_i i12, v_i i11] s) fun s1 x1 =>
  c_rg i8 400000 (
    b_Rm_tellBehind_12 C i4 i10 x1 t0 (s1.1 58 i8.toNatClampNeg) s1)
  := (c_blk_eq d_CT T_Rm_tellBehind L_Rm_tellBehind 1 C 400 96 [(0, v_r 34), (4, v_i i4), (8, v_i i8), (10, v_i i10), (11, v_i i11), (12, v_i i12)] [v_i t0] s).trans rfl
theorem m_Rm_tellBehind (d : Nat) (i1 : Int32) (i2 : Int32) (i3 : Int32) (i4 : Int32) (s : c_S) : c_M (d + 1) 87 [v_r 34, v_i i1, v_i i2, v_i i3, v_i i4] s = b_Rm_tellBehind_0 (c_M d) i1 i2 i3 i4 s := rfl
set_option maxRecDepth 20000 in
theorem e_Rm_tellObject_0 (C : c_C) (i1 : Int32) (i2 : Int32) (i3 : Int32) (i4 : Int32) (i5 : Int32) (i6 : Int32) (s : c_S) : b_Rm_tellObject_0 C i1 i2 i3 i4 i5 i6 s =
  c_bd (C 53 [v_r 34] s) fun s1 x1 =>
  if x1 = 1 then
    c_bd (C 48 [v_r 34, v_i i3, v_i i4] s1) fun s2 x2 =>
    if x2 = 0 then
      c_bd (C 90 [v_r 34, v_i i1, v_i i2, v_i i5, v_i i6] s2) fun s3 x3 =>
      b_Rm_tellObject_52 C x3 s3
    else
      c_bd (C 89 [v_r 34, v_i i1, v_i i2, v_i i5, v_i i6] s2) fun s4 x4 =>
      b_Rm_tellObject_52 C x4 s4
  else
    some (s1, x1)
  := (c_blk_eq d_CT T_Rm_tellObject L_Rm_tellObject 1 C 400 0 [(0, v_r 34), (1, v_i i1), (2, v_i i2), (3, v_i i3), (4, v_i i4), (5, v_i i5), (6, v_i i6)] [] s).trans rfl
set_option maxRecDepth 20000 in
theorem e_Rm_tellObject_52 (C : c_C) (i7 : Int32) (s : c_S) : b_Rm_tellObject_52 C i7 s =
  some ((c_put s 34 53 ((s.1 34 53) - 1)), i7)
  := (c_blk_eq d_CT T_Rm_tellObject L_Rm_tellObject 1 C 400 52 [(0, v_r 34), (7, v_i i7)] [] s).trans rfl
theorem m_Rm_tellObject (d : Nat) (i1 : Int32) (i2 : Int32) (i3 : Int32) (i4 : Int32) (i5 : Int32) (i6 : Int32) (s : c_S) : c_M (d + 1) 88 [v_r 34, v_i i1, v_i i2, v_i i3, v_i i4, v_i i5, v_i i6] s = b_Rm_tellObject_0 (c_M d) i1 i2 i3 i4 i5 i6 s := rfl
set_option maxRecDepth 20000 in
theorem e_Rm_tellLambda_0 (C : c_C) (i1 : Int32) (i2 : Int32) (i3 : Int32) (i4 : Int32) (s : c_S) : b_Rm_tellLambda_0 C i1 i2 i3 i4 s =
  if i4 = 0 then
    b_Rm_tellLambda_35 C i1 i2 i3 i4 (s.1 34 43) (s.1 34 44) (s.1 34 45) (s.1 34 46) s
  else
    b_Rm_tellLambda_29 C i1 i2 i3 i4 (s.1 34 43) (s.1 34 44) (s.1 34 45) (s.1 34 46) s
  := (c_blk_eq d_CT T_Rm_tellLambda L_Rm_tellLambda 1 C 400 0 [(0, v_r 34), (1, v_i i1), (2, v_i i2), (3, v_i i3), (4, v_i i4)] [] s).trans rfl
set_option maxRecDepth 20000 in
theorem e_Rm_tellLambda_35 (C : c_C) (i1 : Int32) (i2 : Int32) (i3 : Int32) (i4 : Int32) (i5 : Int32) (i6 : Int32) (i7 : Int32) (i8 : Int32) (s : c_S) : b_Rm_tellLambda_35 C i1 i2 i3 i4 i5 i6 i7 i8 s =
  c_bd (C 78 [v_r 34, v_i 91] s) fun s1 _ =>
  c_bd (C 81 [v_r 34, v_i i3] s1) fun s2 _ =>
  c_bd (C 78 [v_r 34, v_i 58] s2) fun s3 _ =>
  c_bd (C 85 [v_r 34, v_i 1] s3) fun s4 x4 =>
  if x4 = 1 then
    c_bd (C 86 [v_r 34, v_i i5, v_i i6, v_i i3] s4) fun s5 x5 =>
    b_Rm_tellLambda_79 C i1 i2 i3 i4 i5 i6 i7 i8 x5 s5
  else
    b_Rm_tellLambda_79 C i1 i2 i3 i4 i5 i6 i7 i8 x4 s4
  := (c_blk_eq d_CT T_Rm_tellLambda L_Rm_tellLambda 1 C 400 35 [(0, v_r 34), (1, v_i i1), (2, v_i i2), (3, v_i i3), (4, v_i i4), (5, v_i i5), (6, v_i i6), (7, v_i i7), (8, v_i i8)] [] s).trans rfl
set_option maxRecDepth 20000 in
theorem e_Rm_tellLambda_29 (C : c_C) (i1 : Int32) (i2 : Int32) (i3 : Int32) (i4 : Int32) (i5 : Int32) (i6 : Int32) (i7 : Int32) (i8 : Int32) (s : c_S) : b_Rm_tellLambda_29 C i1 i2 i3 i4 i5 i6 i7 i8 s =
  c_bd (C 78 [v_r 34, v_i 40] s) fun s1 _ =>
  b_Rm_tellLambda_35 C i1 i2 i3 i4 i5 i6 i7 i8 s1
  := (c_blk_eq d_CT T_Rm_tellLambda L_Rm_tellLambda 1 C 400 29 [(0, v_r 34), (1, v_i i1), (2, v_i i2), (3, v_i i3), (4, v_i i4), (5, v_i i5), (6, v_i i6), (7, v_i i7), (8, v_i i8)] [] s).trans rfl
set_option maxRecDepth 20000 in
theorem e_Rm_tellLambda_79 (C : c_C) (i1 : Int32) (i2 : Int32) (i3 : Int32) (i4 : Int32) (i5 : Int32) (i6 : Int32) (i7 : Int32) (i8 : Int32) (t0 : Int32) (s : c_S) : b_Rm_tellLambda_79 C i1 i2 i3 i4 i5 i6 i7 i8 t0 s =
  c_bd (C 78 [v_r 34, v_i 93] s) fun s1 _ =>
  c_bd (C 85 [v_r 34, v_i t0] s1) fun s2 x2 =>
  if x2 = 1 then
    c_bd (C 44 [v_r 34, v_i i5, v_i i6, v_i i3] s2) fun s3 x3 =>
    b_Rm_tellLambda_115 C i1 i2 i3 i4 i7 i8 x3 s3
  else
    some (s2, x2)
  := (c_blk_eq d_CT T_Rm_tellLambda L_Rm_tellLambda 1 C 400 79 [(0, v_r 34), (1, v_i i1), (2, v_i i2), (3, v_i i3), (4, v_i i4), (5, v_i i5), (6, v_i i6), (7, v_i i7), (8, v_i i8)] [v_i t0] s).trans rfl
set_option maxRecDepth 20000 in
theorem e_Rm_tellLambda_115 (C : c_C) (i1 : Int32) (i2 : Int32) (i3 : Int32) (i4 : Int32) (i7 : Int32) (i8 : Int32) (i10 : Int32) (s : c_S) : b_Rm_tellLambda_115 C i1 i2 i3 i4 i7 i8 i10 s =
  c_bd (C 59 [v_r 34, v_i i2, v_i i10] s) fun s1 x1 =>
  c_bd (C 42 [v_r 34, v_i i10, v_i i8] s1) fun s2 x2 =>
  c_bd (C 88 [v_r 34, v_i i1, v_i x1, v_i i7, v_i x2, v_i (i3 + 1), v_i 0] s2) fun s3 x3 =>
  if i4 = 0 then
    b_Rm_tellLambda_154 C x3 s3
  else
    c_bd (C 78 [v_r 34, v_i 41] s3) fun s4 _ =>
    b_Rm_tellLambda_154 C x3 s4
  := (c_blk_eq d_CT T_Rm_tellLambda L_Rm_tellLambda 1 C 400 115 [(0, v_r 34), (1, v_i i1), (2, v_i i2), (3, v_i i3), (4, v_i i4), (7, v_i i7), (8, v_i i8), (10, v_i i10)] [] s).trans rfl
set_option maxRecDepth 20000 in
theorem e_Rm_tellLambda_154 (C : c_C) (i9 : Int32) (s : c_S) : b_Rm_tellLambda_154 C i9 s =
  c_bd (C 85 [v_r 34, v_i i9] s) fun s1 x1 =>
  some (s1, x1)
  := (c_blk_eq d_CT T_Rm_tellLambda L_Rm_tellLambda 1 C 400 154 [(0, v_r 34), (9, v_i i9)] [] s).trans rfl
theorem m_Rm_tellLambda (d : Nat) (i1 : Int32) (i2 : Int32) (i3 : Int32) (i4 : Int32) (s : c_S) : c_M (d + 1) 89 [v_r 34, v_i i1, v_i i2, v_i i3, v_i i4] s = b_Rm_tellLambda_0 (c_M d) i1 i2 i3 i4 s := rfl
set_option maxRecDepth 20000 in
theorem e_Rm_tellHead_0 (C : c_C) (i1 : Int32) (i2 : Int32) (i3 : Int32) (i4 : Int32) (s : c_S) : b_Rm_tellHead_0 C i1 i2 i3 i4 s =
  c_bd (C 51 [v_r 34, v_i i1, v_i i2] s) fun s1 x1 =>
  if (0 : Int32) < x1 then
    some (s1, x1)
  else
    if i4 = 0 then
      b_Rm_tellHead_42 C i3 (s1.1 34 51) (s1.1 34 52) s1
    else
      b_Rm_tellHead_33 C i3 (s1.1 34 51) (s1.1 34 52) s1
  := (c_blk_eq d_CT T_Rm_tellHead L_Rm_tellHead 1 C 400 0 [(0, v_r 34), (1, v_i i1), (2, v_i i2), (3, v_i i3), (4, v_i i4)] [] s).trans rfl
set_option maxRecDepth 20000 in
theorem e_Rm_tellHead_42 (C : c_C) (i3 : Int32) (i6 : Int32) (i7 : Int32) (s : c_S) : b_Rm_tellHead_42 C i3 i6 i7 s =
  b_Rm_tellHead_43 C i3 i6 i7 0 s
  := (c_blk_eq d_CT T_Rm_tellHead L_Rm_tellHead 1 C 400 42 [(0, v_r 34), (3, v_i i3), (6, v_i i6), (7, v_i i7)] [] s).trans rfl
set_option maxRecDepth 20000 in
theorem e_Rm_tellHead_33 (C : c_C) (i3 : Int32) (i6 : Int32) (i7 : Int32) (s : c_S) : b_Rm_tellHead_33 C i3 i6 i7 s =
  if i7 < 0 then
    b_Rm_tellHead_42 C i3 i6 i7 s
  else
    b_Rm_tellHead_43 C i3 i6 i7 1 s
  := (c_blk_eq d_CT T_Rm_tellHead L_Rm_tellHead 1 C 400 33 [(0, v_r 34), (3, v_i i3), (6, v_i i6), (7, v_i i7)] [] s).trans rfl
set_option maxRecDepth 20000 in
theorem e_Rm_tellHead_43 (C : c_C) (i3 : Int32) (i6 : Int32) (i7 : Int32) (t0 : Int32) (s : c_S) : b_Rm_tellHead_43 C i3 i6 i7 t0 s =
  if t0 = 0 then
    b_Rm_tellHead_56 C i3 i6 i7 t0 s
  else
    c_bd (C 78 [v_r 34, v_i 40] s) fun s1 _ =>
    b_Rm_tellHead_56 C i3 i6 i7 t0 s1
  := (c_blk_eq d_CT T_Rm_tellHead L_Rm_tellHead 1 C 400 43 [(0, v_r 34), (3, v_i i3), (6, v_i i6), (7, v_i i7)] [v_i t0] s).trans rfl
set_option maxRecDepth 20000 in
theorem e_Rm_tellHead_56 (C : c_C) (i3 : Int32) (i6 : Int32) (i7 : Int32) (i8 : Int32) (s : c_S) : b_Rm_tellHead_56 C i3 i6 i7 i8 s =
  if i6 < 0 then
    c_rg ((-i6) - 1) 24000 (
      c_bd (C 81 [v_r 34, v_i (s.1 61 (((-i6) - 1).toNatClampNeg))] s) fun s1 _ =>
      b_Rm_tellHead_100 C i3 i6 i7 i8 s1)
  else
    c_rg i6 101 (
      c_bd (C 80 [v_r 34, v_l (s.2 47 i6.toNatClampNeg)] s) fun s2 _ =>
      c_rg i6 101 (
        c_bd (C 80 [v_r 34, v_l (s2.2 48 i6.toNatClampNeg)] s2) fun s3 _ =>
        b_Rm_tellHead_100 C i3 i6 i7 i8 s3))
  := (c_blk_eq d_CT T_Rm_tellHead L_Rm_tellHead 1 C 400 56 [(0, v_r 34), (3, v_i i3), (6, v_i i6), (7, v_i i7), (8, v_i i8)] [] s).trans rfl
set_option maxRecDepth 20000 in
theorem e_Rm_tellHead_100 (C : c_C) (i3 : Int32) (i6 : Int32) (i7 : Int32) (i8 : Int32) (s : c_S) : b_Rm_tellHead_100 C i3 i6 i7 i8 s =
  c_bd (C 85 [v_r 34, v_i 1] s) fun s1 x1 =>
  if x1 = 1 then
    if i6 < 0 then
      c_rg ((-i6) - 1) 24000 (
        c_rg ((-i6) - 1) 24000 (
          c_bd (C 87 [v_r 34, v_i (s1.1 59 (((-i6) - 1).toNatClampNeg)), v_i (s1.1 60 (((-i6) - 1).toNatClampNeg)), v_i i7, v_i i3] s1) fun s2 x2 =>
          b_Rm_tellHead_168 C i8 x2 s2))
    else
      c_rg i6 101 (
        c_bd (C 87 [v_r 34, v_i (s1.1 50 i6.toNatClampNeg), v_i ((-1)), v_i i7, v_i i3] s1) fun s3 x3 =>
        b_Rm_tellHead_168 C i8 x3 s3)
  else
    b_Rm_tellHead_168 C i8 x1 s1
  := (c_blk_eq d_CT T_Rm_tellHead L_Rm_tellHead 1 C 400 100 [(0, v_r 34), (3, v_i i3), (6, v_i i6), (7, v_i i7), (8, v_i i8)] [] s).trans rfl
set_option maxRecDepth 20000 in
theorem e_Rm_tellHead_168 (C : c_C) (i8 : Int32) (t0 : Int32) (s : c_S) : b_Rm_tellHead_168 C i8 t0 s =
  if i8 = 0 then
    b_Rm_tellHead_181 C t0 s
  else
    c_bd (C 78 [v_r 34, v_i 41] s) fun s1 _ =>
    b_Rm_tellHead_181 C t0 s1
  := (c_blk_eq d_CT T_Rm_tellHead L_Rm_tellHead 1 C 400 168 [(0, v_r 34), (8, v_i i8)] [v_i t0] s).trans rfl
set_option maxRecDepth 20000 in
theorem e_Rm_tellHead_181 (C : c_C) (i5 : Int32) (s : c_S) : b_Rm_tellHead_181 C i5 s =
  c_bd (C 85 [v_r 34, v_i i5] s) fun s1 x1 =>
  some (s1, x1)
  := (c_blk_eq d_CT T_Rm_tellHead L_Rm_tellHead 1 C 400 181 [(0, v_r 34), (5, v_i i5)] [] s).trans rfl
theorem m_Rm_tellHead (d : Nat) (i1 : Int32) (i2 : Int32) (i3 : Int32) (i4 : Int32) (s : c_S) : c_M (d + 1) 90 [v_r 34, v_i i1, v_i i2, v_i i3, v_i i4] s = b_Rm_tellHead_0 (c_M d) i1 i2 i3 i4 s := rfl
set_option maxRecDepth 20000 in
theorem e_Rm_askOne_0 (C : c_C)  (s : c_S) : b_Rm_askOne_0 C  s =
  c_bd (C 34 [v_r 34] s) fun s1 x1 =>
  if s1.1 34 9 = 0 then
    c_rg (s1.1 34 8) 4002 (
      if s1.1 36 ((s1.1 34 8).toNatClampNeg) = 0 then
        b_Rm_askOne_33 C x1 s1
      else
        c_bd (C 25 [v_r 34, v_i 1, v_i (s1.1 34 8)] s1) fun s2 _ =>
        b_Rm_askOne_33 C x1 s2)
  else
    b_Rm_askOne_33 C x1 s1
  := (c_blk_eq d_CT T_Rm_askOne L_Rm_askOne 1 C 400 0 [(0, v_r 34)] [] s).trans rfl
set_option maxRecDepth 20000 in
theorem e_Rm_askOne_33 (C : c_C) (i1 : Int32) (s : c_S) : b_Rm_askOne_33 C i1 s =
  if s.1 34 9 = 0 then
    c_bd (C 71 [v_r 34, v_i i1] (c_put s 34 59 0)) fun s1 _ =>
    some (s1, i1)
  else
    some ((c_put s 34 59 0), i1)
  := (c_blk_eq d_CT T_Rm_askOne L_Rm_askOne 1 C 400 33 [(0, v_r 34), (1, v_i i1)] [] s).trans rfl
theorem m_Rm_askOne (d : Nat)  (s : c_S) : c_M (d + 1) 91 [v_r 34] s = b_Rm_askOne_0 (c_M d)  s := rfl
set_option maxRecDepth 20000 in
theorem e_Rm_tell_0 (C : c_C) (i1 : Int32) (s : c_S) : b_Rm_tell_0 C i1 s =
  c_bd (C 47 [v_r 34] (c_put s 34 0 0)) fun s1 _ =>
  c_bd (C 91 [v_r 34] s1) fun s2 x2 =>
  if s2.1 34 9 = 0 then
    c_bd (C 82 [v_r 34] s2) fun s3 _ =>
    b_Rm_tell_30 C i1 (s1.1 34 16) x2 s3
  else
    b_Rm_tell_108 C (s1.1 34 16) s2
  := (c_blk_eq d_CT T_Rm_tell L_Rm_tell 1 C 400 0 [(0, v_r 34), (1, v_i i1)] [] s).trans rfl
set_option maxRecDepth 20000 in
theorem e_Rm_tell_30 (C : c_C) (i1 : Int32) (i2 : Int32) (i3 : Int32) (s : c_S) : b_Rm_tell_30 C i1 i2 i3 s =
  if i1 = 0 then
    c_bd (C 41 [v_r 34, v_i i3, v_i ((-1))] (c_put (c_put (c_put s 34 64 0) 34 66 0) 34 53 0)) fun s1 x1 =>
    c_bd (C 88 [v_r 34, v_i x1, v_i ((-1)), v_i (s1.1 34 60), v_i (s1.1 34 61), v_i 0, v_i 0] s1) fun s2 x2 =>
    b_Rm_tell_86 C i2 x2 s2
  else
    c_bd (C 86 [v_r 34, v_i (s.1 34 60), v_i (s.1 34 61), v_i 0] (c_put (c_put (c_put s 34 64 0) 34 66 0) 34 53 0)) fun s3 x3 =>
    b_Rm_tell_86 C i2 x3 s3
  := (c_blk_eq d_CT T_Rm_tell L_Rm_tell 1 C 400 30 [(0, v_r 34), (1, v_i i1), (2, v_i i2), (3, v_i i3)] [] s).trans rfl
set_option maxRecDepth 20000 in
theorem e_Rm_tell_108 (C : c_C) (i2 : Int32) (s : c_S) : b_Rm_tell_108 C i2 s =
  if s.1 34 9 = 0 then
    b_Rm_tell_123 C 0 (c_put s 34 16 i2)
  else
    some ((c_put s 34 16 i2), s.1 34 9)
  := (c_blk_eq d_CT T_Rm_tell L_Rm_tell 1 C 400 108 [(0, v_r 34), (2, v_i i2)] [] s).trans rfl
set_option maxRecDepth 20000 in
theorem e_Rm_tell_86 (C : c_C) (i2 : Int32) (t0 : Int32) (s : c_S) : b_Rm_tell_86 C i2 t0 s =
  if t0 = 1 then
    b_Rm_tell_108 C i2 s
  else
    b_Rm_tell_108 C i2 (c_put s 34 9 (t0 + ((16 : Int32) * (s.1 34 3))))
  := (c_blk_eq d_CT T_Rm_tell L_Rm_tell 1 C 400 86 [(0, v_r 34), (2, v_i i2)] [v_i t0] s).trans rfl
set_option maxRecDepth 20000 in
theorem e_Rm_tell_123 (C : c_C) (i4 : Int32) (s : c_S) : b_Rm_tell_123 C i4 s =
  if i4 < s.1 34 64 then
    c_rg i4 2000 (
      c_rg i4 2000 (
        b_Rm_tell_123 C (i4 + 1) (c_put s 69 i4.toNatClampNeg (s.1 67 i4.toNatClampNeg))))
  else
    some ((c_put s 34 70 (s.1 34 64)), s.1 34 9)
  := (c_blk_eq d_CT T_Rm_tell L_Rm_tell 1 C 400 123 [(0, v_r 34), (4, v_i i4)] [] s).trans rfl
theorem m_Rm_tell (d : Nat) (i1 : Int32) (s : c_S) : c_M (d + 1) 92 [v_r 34, v_i i1] s = b_Rm_tell_0 (c_M d) i1 s := rfl
set_option maxRecDepth 20000 in
theorem e_Rm_canon_0 (C : c_C)  (s : c_S) : b_Rm_canon_0 C  s =
  c_bd (C 92 [v_r 34, v_i 0] s) fun s1 x1 =>
  some (s1, x1)
  := (c_blk_eq d_CT T_Rm_canon L_Rm_canon 1 C 400 0 [(0, v_r 34)] [] s).trans rfl
theorem m_Rm_canon (d : Nat)  (s : c_S) : c_M (d + 1) 93 [v_r 34] s = b_Rm_canon_0 (c_M d)  s := rfl
set_option maxRecDepth 20000 in
theorem e_Rm_type_0 (C : c_C)  (s : c_S) : b_Rm_type_0 C  s =
  c_bd (C 92 [v_r 34, v_i 1] s) fun s1 x1 =>
  some (s1, x1)
  := (c_blk_eq d_CT T_Rm_type L_Rm_type 1 C 400 0 [(0, v_r 34)] [] s).trans rfl
theorem m_Rm_type (d : Nat)  (s : c_S) : c_M (d + 1) 94 [v_r 34] s = b_Rm_type_0 (c_M d)  s := rfl
set_option maxRecDepth 20000 in
theorem e_Rm_equal_0 (C : c_C)  (s : c_S) : b_Rm_equal_0 C  s =
  c_bd (C 47 [v_r 34] (c_put s 34 0 0)) fun s1 _ =>
  c_bd (C 34 [v_r 34] s1) fun s2 x2 =>
  c_bd (C 29 [v_r 34, v_i 59] s2) fun s3 _ =>
  if s3.1 34 9 = 0 then
    b_Rm_equal_32 C (s1.1 34 16) x2 s3
  else
    b_Rm_equal_39 C (s1.1 34 16) x2 s3
  := (c_blk_eq d_CT T_Rm_equal L_Rm_equal 1 C 400 0 [(0, v_r 34)] [] s).trans rfl
set_option maxRecDepth 20000 in
theorem e_Rm_equal_32 (C : c_C) (i1 : Int32) (i2 : Int32) (s : c_S) : b_Rm_equal_32 C i1 i2 s =
  c_bd (C 34 [v_r 34] s) fun s1 x1 =>
  b_Rm_equal_40 C i1 i2 x1 s1
  := (c_blk_eq d_CT T_Rm_equal L_Rm_equal 1 C 400 32 [(0, v_r 34), (1, v_i i1), (2, v_i i2)] [] s).trans rfl
set_option maxRecDepth 20000 in
theorem e_Rm_equal_39 (C : c_C) (i1 : Int32) (i2 : Int32) (s : c_S) : b_Rm_equal_39 C i1 i2 s =
  b_Rm_equal_40 C i1 i2 ((-1)) s
  := (c_blk_eq d_CT T_Rm_equal L_Rm_equal 1 C 400 39 [(0, v_r 34), (1, v_i i1), (2, v_i i2)] [] s).trans rfl
set_option maxRecDepth 20000 in
theorem e_Rm_equal_40 (C : c_C) (i1 : Int32) (i2 : Int32) (t0 : Int32) (s : c_S) : b_Rm_equal_40 C i1 i2 t0 s =
  if s.1 34 9 = 0 then
    c_rg (s.1 34 8) 4002 (
      if s.1 36 ((s.1 34 8).toNatClampNeg) = 0 then
        b_Rm_equal_69 C i1 i2 t0 s
      else
        c_bd (C 25 [v_r 34, v_i 1, v_i (s.1 34 8)] s) fun s1 _ =>
        b_Rm_equal_69 C i1 i2 t0 s1)
  else
    b_Rm_equal_69 C i1 i2 t0 s
  := (c_blk_eq d_CT T_Rm_equal L_Rm_equal 1 C 400 40 [(0, v_r 34), (1, v_i i1), (2, v_i i2)] [v_i t0] s).trans rfl
set_option maxRecDepth 20000 in
theorem e_Rm_equal_69 (C : c_C) (i1 : Int32) (i2 : Int32) (i3 : Int32) (s : c_S) : b_Rm_equal_69 C i1 i2 i3 s =
  if s.1 34 9 = 0 then
    c_bd (C 71 [v_r 34, v_i i2] (c_put s 34 59 0)) fun s1 _ =>
    b_Rm_equal_86 C i1 i2 i3 s1
  else
    b_Rm_equal_86 C i1 i2 i3 (c_put s 34 59 0)
  := (c_blk_eq d_CT T_Rm_equal L_Rm_equal 1 C 400 69 [(0, v_r 34), (1, v_i i1), (2, v_i i2), (3, v_i i3)] [] s).trans rfl
set_option maxRecDepth 20000 in
theorem e_Rm_equal_86 (C : c_C) (i1 : Int32) (i2 : Int32) (i3 : Int32) (s : c_S) : b_Rm_equal_86 C i1 i2 i3 s =
  if s.1 34 9 = 0 then
    c_bd (C 71 [v_r 34, v_i i3] s) fun s1 _ =>
    b_Rm_equal_110 C i1 i2 i3 (s.1 34 60) (s.1 34 61) s1
  else
    b_Rm_equal_110 C i1 i2 i3 (s.1 34 60) (s.1 34 61) s
  := (c_blk_eq d_CT T_Rm_equal L_Rm_equal 1 C 400 86 [(0, v_r 34), (1, v_i i1), (2, v_i i2), (3, v_i i3)] [] s).trans rfl
set_option maxRecDepth 20000 in
theorem e_Rm_equal_110 (C : c_C) (i1 : Int32) (i2 : Int32) (i3 : Int32) (i4 : Int32) (i5 : Int32) (s : c_S) : b_Rm_equal_110 C i1 i2 i3 i4 i5 s =
  if s.1 34 9 = 0 then
    c_bd (C 62 [v_r 34, v_i i4, v_i i5, v_i (s.1 34 60), v_i (s.1 34 61)] s) fun s1 x1 =>
    if x1 = 0 then
      b_Rm_equal_152 C i1 i2 i3 i4 i5 ((-2)) s1
    else
      b_Rm_equal_152 C i1 i2 i3 i4 i5 x1 s1
  else
    b_Rm_equal_152 C i1 i2 i3 i4 i5 0 s
  := (c_blk_eq d_CT T_Rm_equal L_Rm_equal 1 C 400 110 [(0, v_r 34), (1, v_i i1), (2, v_i i2), (3, v_i i3), (4, v_i i4), (5, v_i i5)] [] s).trans rfl
set_option maxRecDepth 20000 in
theorem e_Rm_equal_152 (C : c_C) (i1 : Int32) (i2 : Int32) (i3 : Int32) (i4 : Int32) (i5 : Int32) (i6 : Int32) (s : c_S) : b_Rm_equal_152 C i1 i2 i3 i4 i5 i6 s =
  if s.1 34 9 = 0 then
    if i6 = 1 then
      c_bd (C 41 [v_r 34, v_i i2, v_i ((-1))] (c_put s 34 53 0)) fun s1 x1 =>
      c_bd (C 41 [v_r 34, v_i i3, v_i ((-1))] s1) fun s2 x2 =>
      c_bd (C 60 [v_r 34, v_i x1, v_i ((-1)), v_i x2, v_i ((-1)), v_i i4, v_i i5] s2) fun s3 x3 =>
      b_Rm_equal_194 C i1 x3 s3
    else
      b_Rm_equal_194 C i1 i6 s
  else
    b_Rm_equal_194 C i1 i6 s
  := (c_blk_eq d_CT T_Rm_equal L_Rm_equal 1 C 400 152 [(0, v_r 34), (1, v_i i1), (2, v_i i2), (3, v_i i3), (4, v_i i4), (5, v_i i5), (6, v_i i6)] [] s).trans rfl
set_option maxRecDepth 20000 in
theorem e_Rm_equal_194 (C : c_C) (i1 : Int32) (i6 : Int32) (s : c_S) : b_Rm_equal_194 C i1 i6 s =
  if s.1 34 9 = 0 then
    if (1 : Int32) < i6 then
      if (0 : Int32) < i6 + ((16 : Int32) * (s.1 34 3)) then
        some ((c_put (c_put s 34 16 i1) 34 9 (i6 + ((16 : Int32) * (s.1 34 3)))), ((-1) : Int32) - (i6 + ((16 : Int32) * (s.1 34 3))))
      else
        some ((c_put (c_put s 34 16 i1) 34 9 (i6 + ((16 : Int32) * (s.1 34 3)))), i6)
    else
      if (0 : Int32) < s.1 34 9 then
        some ((c_put s 34 16 i1), ((-1) : Int32) - (s.1 34 9))
      else
        some ((c_put s 34 16 i1), i6)
  else
    if (0 : Int32) < s.1 34 9 then
      some ((c_put s 34 16 i1), ((-1) : Int32) - (s.1 34 9))
    else
      some ((c_put s 34 16 i1), i6)
  := (c_blk_eq d_CT T_Rm_equal L_Rm_equal 1 C 400 194 [(0, v_r 34), (1, v_i i1), (6, v_i i6)] [] s).trans rfl
theorem m_Rm_equal (d : Nat)  (s : c_S) : c_M (d + 1) 95 [v_r 34] s = b_Rm_equal_0 (c_M d)  s := rfl
set_option maxRecDepth 20000 in
theorem e_Rm_named_0 (C : c_C)  (s : c_S) : b_Rm_named_0 C  s =
  c_bd (C 24 [v_r 34] (c_put s 34 0 0)) fun s1 _ =>
  c_bd (C 28 [v_r 34] s1) fun s2 x2 =>
  if x2 = 0 then
    some (s2, (-1))
  else
    c_rg 1 4002 (
      if s2.1 36 ((1 : Int32).toNatClampNeg) = 0 then
        c_bd (C 40 [v_r 34, v_i 0] s2) fun s3 x3 =>
        some (s3, x3)
      else
        some (s2, (-1)))
  := (c_blk_eq d_CT T_Rm_named L_Rm_named 1 C 400 0 [(0, v_r 34)] [] s).trans rfl
theorem m_Rm_named (d : Nat)  (s : c_S) : c_M (d + 1) 96 [v_r 34] s = b_Rm_named_0 (c_M d)  s := rfl
set_option maxRecDepth 20000 in
theorem e_Rm_constant_0 (C : c_C) (i1 : Int32) (i2 : Int32) (s : c_S) : b_Rm_constant_0 C i1 i2 s =
  if i1 < 0 then
    some ((c_put s 34 0 0), (-1))
  else
    if i1 < s.1 34 21 then
      if i2 < 0 then
        some ((c_put s 34 0 0), (-1))
      else
        if (1 : Int32) < i2 then
          some ((c_put s 34 0 0), (-1))
        else
          c_rg i1 101 (
            b_Rm_constant_38 C i1 i2 0 (s.1 50 i1.toNatClampNeg) (c_put s 34 0 0))
    else
      some ((c_put s 34 0 0), (-1))
  := (c_blk_eq d_CT T_Rm_constant L_Rm_constant 1 C 400 0 [(0, v_r 34), (1, v_i i1), (2, v_i i2)] [] s).trans rfl
set_option maxRecDepth 20000 in
theorem e_Rm_constant_38 (C : c_C) (i1 : Int32) (i2 : Int32) (i3 : Int32) (i4 : Int32) (s : c_S) : b_Rm_constant_38 C i1 i2 i3 i4 s =
  c_rg i4 136000 (
    if s.1 40 i4.toNatClampNeg = 5 then
      c_rg i4 136000 (
        b_Rm_constant_38 C i1 i2 (i3 + 1) (s.1 42 i4.toNatClampNeg) s)
    else
      if i2 = 1 then
        some (s, i3)
      else
        c_rg i1 101 (
          if s.1 49 i1.toNatClampNeg = 0 then
            c_rg i1 101 (
              if s.1 51 i1.toNatClampNeg < 0 then
                some (s, 1)
              else
                some (s, 2))
          else
            some (s, 0)))
  := (c_blk_eq d_CT T_Rm_constant L_Rm_constant 1 C 400 38 [(0, v_r 34), (1, v_i i1), (2, v_i i2), (3, v_i i3), (4, v_i i4)] [] s).trans rfl
theorem m_Rm_constant (d : Nat) (i1 : Int32) (i2 : Int32) (s : c_S) : c_M (d + 1) 97 [v_r 34, v_i i1, v_i i2] s = b_Rm_constant_0 (c_M d) i1 i2 s := rfl
set_option maxRecDepth 20000 in
theorem e_Rm_size_0 (C : c_C)  (s : c_S) : b_Rm_size_0 C  s =
  some ((c_put s 34 0 0), s.1 34 70)
  := (c_blk_eq d_CT T_Rm_size L_Rm_size 1 C 400 0 [(0, v_r 34)] [] s).trans rfl
theorem m_Rm_size (d : Nat)  (s : c_S) : c_M (d + 1) 98 [v_r 34] s = b_Rm_size_0 (c_M d)  s := rfl
set_option maxRecDepth 20000 in
theorem e_Rm_out_0 (C : c_C) (i1 : Int32) (s : c_S) : b_Rm_out_0 C i1 s =
  if i1 < 0 then
    some ((c_put s 34 0 0), (-1))
  else
    if i1 < s.1 34 70 then
      c_rg i1 2000 (
        some ((c_put s 34 0 0), s.1 69 i1.toNatClampNeg))
    else
      some ((c_put s 34 0 0), (-1))
  := (c_blk_eq d_CT T_Rm_out L_Rm_out 1 C 400 0 [(0, v_r 34), (1, v_i i1)] [] s).trans rfl
theorem m_Rm_out (d : Nat) (i1 : Int32) (s : c_S) : c_M (d + 1) 99 [v_r 34, v_i i1] s = b_Rm_out_0 (c_M d) i1 s := rfl
set_option maxRecDepth 20000 in
theorem e_Rm_forget_0 (C : c_C) (i1 : Int32) (s : c_S) : b_Rm_forget_0 C i1 s =
  if i1 < 0 then
    some ((c_put s 34 0 0), (-1))
  else
    if s.1 34 21 < i1 then
      some ((c_put s 34 0 0), (-1))
    else
      if (0 : Int32) < i1 then
        c_rg ((s.1 34 21) - i1) 101 (
          some ((c_put (c_put (c_put s 34 0 0) 34 21 ((s.1 34 21) - i1)) 34 16 (s.1 52 (((s.1 34 21) - i1).toNatClampNeg))), (s.1 34 21) - i1))
      else
        some ((c_put (c_put (c_put s 34 0 0) 34 21 ((s.1 34 21) - i1)) 34 16 (s.1 34 16)), (s.1 34 21) - i1)
  := (c_blk_eq d_CT T_Rm_forget L_Rm_forget 1 C 400 0 [(0, v_r 34), (1, v_i i1)] [] s).trans rfl
theorem m_Rm_forget (d : Nat) (i1 : Int32) (s : c_S) : c_M (d + 1) 100 [v_r 34, v_i i1] s = b_Rm_forget_0 (c_M d) i1 s := rfl
set_option maxRecDepth 20000 in
theorem e_Rm_count_0 (C : c_C) (i1 : Int32) (s : c_S) : b_Rm_count_0 C i1 s =
  if i1 = 0 then
    some ((c_put s 34 0 0), s.1 34 21)
  else
  if i1 = 1 then
    some ((c_put s 34 0 0), s.1 34 41)
  else
  if i1 = 2 then
    some ((c_put s 34 0 0), s.1 34 42)
  else
  if i1 = 3 then
    some ((c_put s 34 0 0), s.1 34 2)
  else
  some ((c_put s 34 0 0), (-1))
  := (c_blk_eq d_CT T_Rm_count L_Rm_count 1 C 400 0 [(0, v_r 34), (1, v_i i1)] [] s).trans rfl
theorem m_Rm_count (d : Nat) (i1 : Int32) (s : c_S) : c_M (d + 1) 101 [v_r 34, v_i i1] s = b_Rm_count_0 (c_M d) i1 s := rfl
