noncomputable def b_Rm_feed_0 (C : c_C) (j1 : Int64) (j3 : Int64) (j5 : Int64) (s : c_S) : c_R := c_run d_CT T_Rm_feed L_Rm_feed 1 C 0 [(0, v_r 34), (1, v_l j1), (3, v_l j3), (5, v_l j5)] [] s
noncomputable def b_Rm_lay_0 (C : c_C) (j1 : Int64) (s : c_S) : c_R := c_run d_CT T_Rm_lay L_Rm_lay 0 C 0 [(0, v_r 34), (1, v_l j1)] [] s
noncomputable def b_Rm_lay_3 (C : c_C) (j1 : Int64) (i3 : Int32) (s : c_S) : c_R := c_run d_CT T_Rm_lay L_Rm_lay 0 C 3 [(0, v_r 34), (1, v_l j1), (3, v_i i3)] [] s
noncomputable def b_Rm_lay_38 (C : c_C) (j1 : Int64) (i3 : Int32) (i4 : Int32) (s : c_S) : c_R := c_run d_CT T_Rm_lay L_Rm_lay 0 C 38 [(0, v_r 34), (1, v_l j1), (3, v_i i3), (4, v_i i4)] [] s
noncomputable def b_Rm_isLetter_0 (C : c_C) (i0 : Int32) (s : c_S) : c_R := c_run d_CT T_Rm_isLetter L_Rm_isLetter 2 C 0 [(0, v_i i0)] [] s
noncomputable def b_Rm_isDigit_0 (C : c_C) (i0 : Int32) (s : c_S) : c_R := c_run d_CT T_Rm_isDigit L_Rm_isDigit 2 C 0 [(0, v_i i0)] [] s
noncomputable def b_Rm_rank_0 (C : c_C) (i0 : Int32) (s : c_S) : c_R := c_run d_CT T_Rm_rank L_Rm_rank 1 C 0 [(0, v_i i0)] [] s
noncomputable def b_Rm_isSignOf_0 (C : c_C) (i0 : Int32) (s : c_S) : c_R := c_run d_CT T_Rm_isSignOf L_Rm_isSignOf 2 C 0 [(0, v_i i0)] [] s
noncomputable def b_Rm_isSignOf_66 (C : c_C)  (s : c_S) : c_R := c_run d_CT T_Rm_isSignOf L_Rm_isSignOf 2 C 66 [] [] s
noncomputable def b_Rm_isSignOf_54 (C : c_C) (i0 : Int32) (s : c_S) : c_R := c_run d_CT T_Rm_isSignOf L_Rm_isSignOf 2 C 54 [(0, v_i i0)] [] s
noncomputable def b_Rm_cutAll_0 (C : c_C)  (s : c_S) : c_R := c_run d_CT T_Rm_cutAll L_Rm_cutAll 0 C 0 [(0, v_r 34)] [] s
noncomputable def b_Rm_cutAll_17 (C : c_C) (i1 : Int32) (i2 : Int32) (s : c_S) : c_R := c_run d_CT T_Rm_cutAll L_Rm_cutAll 0 C 17 [(0, v_r 34), (1, v_i i1), (2, v_i i2)] [] s
noncomputable def b_Rm_cutAll_67 (C : c_C) (i1 : Int32) (i2 : Int32) (i3 : Int32) (i4 : Int32) (s : c_S) : c_R := c_run d_CT T_Rm_cutAll L_Rm_cutAll 0 C 67 [(0, v_r 34), (1, v_i i1), (2, v_i i2), (3, v_i i3), (4, v_i i4)] [] s
noncomputable def b_Rm_cutAll_77 (C : c_C) (i1 : Int32) (i2 : Int32) (i4 : Int32) (j5 : Int64) (s : c_S) : c_R := c_run d_CT T_Rm_cutAll L_Rm_cutAll 0 C 77 [(0, v_r 34), (1, v_i i1), (2, v_i i2), (4, v_i i4), (5, v_l j5)] [] s
noncomputable def b_Rm_cutAll_155 (C : c_C) (i1 : Int32) (i2 : Int32) (i4 : Int32) (j5 : Int64) (i7 : Int32) (s : c_S) : c_R := c_run d_CT T_Rm_cutAll L_Rm_cutAll 0 C 155 [(0, v_r 34), (1, v_i i1), (2, v_i i2), (4, v_i i4), (5, v_l j5), (7, v_i i7)] [] s
noncomputable def b_Rm_cutAll_109 (C : c_C) (i1 : Int32) (i2 : Int32) (i4 : Int32) (j5 : Int64) (s : c_S) : c_R := c_run d_CT T_Rm_cutAll L_Rm_cutAll 0 C 109 [(0, v_r 34), (1, v_i i1), (2, v_i i2), (4, v_i i4), (5, v_l j5)] [] s
noncomputable def b_Rm_cutAll_205 (C : c_C) (i1 : Int32) (i2 : Int32) (i4 : Int32) (j5 : Int64) (s : c_S) : c_R := c_run d_CT T_Rm_cutAll L_Rm_cutAll 0 C 205 [(0, v_r 34), (1, v_i i1), (2, v_i i2), (4, v_i i4), (5, v_l j5)] [] s
noncomputable def b_Rm_wrong_0 (C : c_C) (i1 : Int32) (i2 : Int32) (s : c_S) : c_R := c_run d_CT T_Rm_wrong L_Rm_wrong 0 C 0 [(0, v_r 34), (1, v_i i1), (2, v_i i2)] [] s
noncomputable def b_Rm_isSign_0 (C : c_C) (i1 : Int32) (s : c_S) : c_R := c_run d_CT T_Rm_isSign L_Rm_isSign 2 C 0 [(0, v_r 34), (1, v_i i1)] [] s
noncomputable def b_Rm_isType_0 (C : c_C)  (s : c_S) : c_R := c_run d_CT T_Rm_isType L_Rm_isType 2 C 0 [(0, v_r 34)] [] s
noncomputable def b_Rm_isName_0 (C : c_C)  (s : c_S) : c_R := c_run d_CT T_Rm_isName L_Rm_isName 2 C 0 [(0, v_r 34)] [] s
noncomputable def b_Rm_takeSign_0 (C : c_C) (i1 : Int32) (s : c_S) : c_R := c_run d_CT T_Rm_takeSign L_Rm_takeSign 0 C 0 [(0, v_r 34), (1, v_i i1)] [] s
noncomputable def b_Rm_node_0 (C : c_C) (i1 : Int32) (i2 : Int32) (i3 : Int32) (i4 : Int32) (i5 : Int32) (s : c_S) : c_R := c_run d_CT T_Rm_node L_Rm_node 1 C 0 [(0, v_r 34), (1, v_i i1), (2, v_i i2), (3, v_i i3), (4, v_i i4), (5, v_i i5)] [] s
noncomputable def b_Rm_node_66 (C : c_C) (i6 : Int32) (s : c_S) : c_R := c_run d_CT T_Rm_node L_Rm_node 1 C 66 [(6, v_i i6)] [] s
noncomputable def b_Rm_typeNode_0 (C : c_C) (i1 : Int32) (i2 : Int32) (i3 : Int32) (s : c_S) : c_R := c_run d_CT T_Rm_typeNode L_Rm_typeNode 1 C 0 [(0, v_r 34), (1, v_i i1), (2, v_i i2), (3, v_i i3)] [] s
noncomputable def b_Rm_within_0 (C : c_C)  (s : c_S) : c_R := c_run d_CT T_Rm_within L_Rm_within 0 C 0 [(0, v_r 34)] [] s
noncomputable def b_Rm_counts_0 (C : c_C)  (s : c_S) : c_R := c_run d_CT T_Rm_counts L_Rm_counts 0 C 0 [(0, v_r 34)] [] s
noncomputable def b_Rm_readWhole_0 (C : c_C)  (s : c_S) : c_R := c_run d_CT T_Rm_readWhole L_Rm_readWhole 1 C 0 [(0, v_r 34)] [] s
noncomputable def b_Rm_isP_0 (C : c_C)  (s : c_S) : c_R := c_run d_CT T_Rm_isP L_Rm_isP 2 C 0 [(0, v_r 34)] [] s
noncomputable def b_Rm_readE_0 (C : c_C)  (s : c_S) : c_R := c_run d_CT T_Rm_readE L_Rm_readE 1 C 0 [(0, v_r 34)] [] s
noncomputable def b_Rm_readE_45 (C : c_C)  (s : c_S) : c_R := c_run d_CT T_Rm_readE L_Rm_readE 1 C 45 [(0, v_r 34)] [] s
noncomputable def b_Rm_readE_96 (C : c_C) (i1 : Int32) (s : c_S) : c_R := c_run d_CT T_Rm_readE L_Rm_readE 1 C 96 [(1, v_i i1)] [] s
noncomputable def b_Rm_readE_67 (C : c_C)  (s : c_S) : c_R := c_run d_CT T_Rm_readE L_Rm_readE 1 C 67 [(0, v_r 34)] [] s
noncomputable def b_Rm_readBinder_0 (C : c_C) (i1 : Int32) (s : c_S) : c_R := c_run d_CT T_Rm_readBinder L_Rm_readBinder 1 C 0 [(0, v_r 34), (1, v_i i1)] [] s
noncomputable def b_Rm_readBinder_40 (C : c_C) (i1 : Int32) (i2 : Int32) (i3 : Int32) (s : c_S) : c_R := c_run d_CT T_Rm_readBinder L_Rm_readBinder 1 C 40 [(0, v_r 34), (1, v_i i1), (2, v_i i2), (3, v_i i3)] [] s
noncomputable def b_Rm_readBinder_49 (C : c_C) (i1 : Int32) (i2 : Int32) (i3 : Int32) (s : c_S) : c_R := c_run d_CT T_Rm_readBinder L_Rm_readBinder 1 C 49 [(0, v_r 34), (1, v_i i1), (2, v_i i2), (3, v_i i3)] [] s
noncomputable def b_Rm_readBinder_83 (C : c_C) (i1 : Int32) (i2 : Int32) (i3 : Int32) (i4 : Int32) (t0 : Int32) (s : c_S) : c_R := c_run d_CT T_Rm_readBinder L_Rm_readBinder 1 C 83 [(0, v_r 34), (1, v_i i1), (2, v_i i2), (3, v_i i3), (4, v_i i4)] [v_i t0, v_r 34] s
noncomputable def b_Rm_readBinder_111 (C : c_C) (i2 : Int32) (i3 : Int32) (i4 : Int32) (i5 : Int32) (t0 : Int32) (s : c_S) : c_R := c_run d_CT T_Rm_readBinder L_Rm_readBinder 1 C 111 [(0, v_r 34), (2, v_i i2), (3, v_i i3), (4, v_i i4), (5, v_i i5)] [v_i t0, v_r 34] s
noncomputable def b_Rm_readA_0 (C : c_C)  (s : c_S) : c_R := c_run d_CT T_Rm_readA L_Rm_readA 1 C 0 [(0, v_r 34)] [] s
noncomputable def b_Rm_readA_10 (C : c_C) (i1 : Int32) (i2 : Int32) (s : c_S) : c_R := c_run d_CT T_Rm_readA L_Rm_readA 1 C 10 [(0, v_r 34), (1, v_i i1), (2, v_i i2)] [] s
noncomputable def b_Rm_readA_87 (C : c_C) (i1 : Int32) (i2 : Int32) (i3 : Int32) (s : c_S) : c_R := c_run d_CT T_Rm_readA L_Rm_readA 1 C 87 [(0, v_r 34), (1, v_i i1), (2, v_i i2), (3, v_i i3)] [] s
noncomputable def b_Rm_readP_0 (C : c_C)  (s : c_S) : c_R := c_run d_CT T_Rm_readP L_Rm_readP 1 C 0 [(0, v_r 34)] [] s
noncomputable def b_Rm_readP_82 (C : c_C) (t0 : Int32) (s : c_S) : c_R := c_run d_CT T_Rm_readP L_Rm_readP 1 C 82 [(0, v_r 34)] [v_i t0, v_r 34] s
noncomputable def b_Rm_readP_46 (C : c_C) (i1 : Int32) (i2 : Int32) (s : c_S) : c_R := c_run d_CT T_Rm_readP L_Rm_readP 1 C 46 [(0, v_r 34), (1, v_i i1), (2, v_i i2)] [] s
noncomputable def b_Rm_constantOf_0 (C : c_C) (i1 : Int32) (s : c_S) : c_R := c_run d_CT T_Rm_constantOf L_Rm_constantOf 1 C 0 [(0, v_r 34), (1, v_i i1)] [] s
noncomputable def b_Rm_constantOf_4 (C : c_C) (i1 : Int32) (i2 : Int32) (i3 : Int32) (s : c_S) : c_R := c_run d_CT T_Rm_constantOf L_Rm_constantOf 1 C 4 [(0, v_r 34), (1, v_i i1), (2, v_i i2), (3, v_i i3)] [] s
noncomputable def b_Rm_closure_0 (C : c_C) (i1 : Int32) (i2 : Int32) (s : c_S) : c_R := c_run d_CT T_Rm_closure L_Rm_closure 1 C 0 [(0, v_r 34), (1, v_i i1), (2, v_i i2)] [] s
noncomputable def b_Rm_list_0 (C : c_C) (i1 : Int32) (i2 : Int32) (s : c_S) : c_R := c_run d_CT T_Rm_list L_Rm_list 1 C 0 [(0, v_r 34), (1, v_i i1), (2, v_i i2)] [] s
noncomputable def b_Rm_behind_0 (C : c_C) (i1 : Int32) (i2 : Int32) (s : c_S) : c_R := c_run d_CT T_Rm_behind L_Rm_behind 1 C 0 [(0, v_r 34), (1, v_i i1), (2, v_i i2)] [] s
noncomputable def b_Rm_newVar_0 (C : c_C) (i1 : Int32) (i2 : Int32) (i3 : Int32) (s : c_S) : c_R := c_run d_CT T_Rm_newVar L_Rm_newVar 1 C 0 [(0, v_r 34), (1, v_i i1), (2, v_i i2), (3, v_i i3)] [] s
noncomputable def b_Rm_step_0 (C : c_C)  (s : c_S) : c_R := c_run d_CT T_Rm_step L_Rm_step 2 C 0 [(0, v_r 34)] [] s
noncomputable def b_Rm_stepAt_0 (C : c_C) (i1 : Int32) (s : c_S) : c_R := c_run d_CT T_Rm_stepAt L_Rm_stepAt 0 C 0 [(0, v_r 34), (1, v_i i1)] [] s
noncomputable def b_Rm_begins_0 (C : c_C)  (s : c_S) : c_R := c_run d_CT T_Rm_begins L_Rm_begins 0 C 0 [(0, v_r 34)] [] s
noncomputable def b_Rm_shows_0 (C : c_C) (i1 : Int32) (i2 : Int32) (s : c_S) : c_R := c_run d_CT T_Rm_shows L_Rm_shows 2 C 0 [(0, v_r 34), (1, v_i i1), (2, v_i i2)] [] s
noncomputable def b_Rm_shows_8 (C : c_C) (i3 : Int32) (i4 : Int32) (i5 : Int32) (s : c_S) : c_R := c_run d_CT T_Rm_shows L_Rm_shows 2 C 8 [(0, v_r 34), (3, v_i i3), (4, v_i i4), (5, v_i i5)] [] s
noncomputable def b_Rm_shows_19 (C : c_C) (i3 : Int32) (i4 : Int32) (i5 : Int32) (s : c_S) : c_R := c_run d_CT T_Rm_shows L_Rm_shows 2 C 19 [(0, v_r 34), (3, v_i i3), (4, v_i i4), (5, v_i i5)] [] s
noncomputable def b_Rm_shows_43 (C : c_C) (i3 : Int32) (i4 : Int32) (i5 : Int32) (s : c_S) : c_R := c_run d_CT T_Rm_shows L_Rm_shows 2 C 43 [(0, v_r 34), (3, v_i i3), (4, v_i i4), (5, v_i i5)] [] s
noncomputable def b_Rm_shows_54 (C : c_C) (i3 : Int32) (i4 : Int32) (i5 : Int32) (s : c_S) : c_R := c_run d_CT T_Rm_shows L_Rm_shows 2 C 54 [(0, v_r 34), (3, v_i i3), (4, v_i i4), (5, v_i i5)] [] s
noncomputable def b_Rm_shows_72 (C : c_C) (i3 : Int32) (i4 : Int32) (i5 : Int32) (s : c_S) : c_R := c_run d_CT T_Rm_shows L_Rm_shows 2 C 72 [(0, v_r 34), (3, v_i i3), (4, v_i i4), (5, v_i i5)] [] s
noncomputable def b_Rm_shows_83 (C : c_C) (i3 : Int32) (i4 : Int32) (i5 : Int32) (s : c_S) : c_R := c_run d_CT T_Rm_shows L_Rm_shows 2 C 83 [(0, v_r 34), (3, v_i i3), (4, v_i i4), (5, v_i i5)] [] s
noncomputable def b_Rm_shows_118 (C : c_C) (i3 : Int32) (i4 : Int32) (i5 : Int32) (s : c_S) : c_R := c_run d_CT T_Rm_shows L_Rm_shows 2 C 118 [(0, v_r 34), (3, v_i i3), (4, v_i i4), (5, v_i i5)] [] s
noncomputable def b_Rm_shows_123 (C : c_C) (i3 : Int32) (i4 : Int32) (i5 : Int32) (s : c_S) : c_R := c_run d_CT T_Rm_shows L_Rm_shows 2 C 123 [(0, v_r 34), (3, v_i i3), (4, v_i i4), (5, v_i i5)] [] s
noncomputable def b_Rm_shows_162 (C : c_C) (i3 : Int32) (i4 : Int32) (i5 : Int32) (s : c_S) : c_R := c_run d_CT T_Rm_shows L_Rm_shows 2 C 162 [(0, v_r 34), (3, v_i i3), (4, v_i i4), (5, v_i i5)] [] s
noncomputable def b_Rm_shows_126 (C : c_C) (i3 : Int32) (i4 : Int32) (i5 : Int32) (s : c_S) : c_R := c_run d_CT T_Rm_shows L_Rm_shows 2 C 126 [(0, v_r 34), (3, v_i i3), (4, v_i i4), (5, v_i i5)] [] s
noncomputable def b_Rm_shows_152 (C : c_C) (i3 : Int32) (i4 : Int32) (i5 : Int32) (s : c_S) : c_R := c_run d_CT T_Rm_shows L_Rm_shows 2 C 152 [(0, v_r 34), (3, v_i i3), (4, v_i i4), (5, v_i i5)] [] s
noncomputable def b_Rm_shown_0 (C : c_C) (i1 : Int32) (i2 : Int32) (s : c_S) : c_R := c_run d_CT T_Rm_shown L_Rm_shown 2 C 0 [(0, v_r 34), (1, v_i i1), (2, v_i i2)] [] s
noncomputable def b_Rm_shown_33 (C : c_C) (i1 : Int32) (i2 : Int32) (s : c_S) : c_R := c_run d_CT T_Rm_shown L_Rm_shown 2 C 33 [(0, v_r 34), (1, v_i i1), (2, v_i i2)] [] s
noncomputable def b_Rm_without_0 (C : c_C) (i1 : Int32) (i2 : Int32) (s : c_S) : c_R := c_run d_CT T_Rm_without L_Rm_without 1 C 0 [(0, v_r 34), (1, v_i i1), (2, v_i i2)] [] s
noncomputable def b_Rm_without_5 (C : c_C) (i2 : Int32) (i3 : Int32) (i4 : Int32) (s : c_S) : c_R := c_run d_CT T_Rm_without L_Rm_without 1 C 5 [(0, v_r 34), (2, v_i i2), (3, v_i i3), (4, v_i i4)] [] s
noncomputable def b_Rm_heads_0 (C : c_C) (i1 : Int32) (i2 : Int32) (s : c_S) : c_R := c_run d_CT T_Rm_heads L_Rm_heads 1 C 0 [(0, v_r 34), (1, v_i i1), (2, v_i i2)] [] s
noncomputable def b_Rm_heads_18 (C : c_C) (i3 : Int32) (i4 : Int32) (i5 : Int32) (s : c_S) : c_R := c_run d_CT T_Rm_heads L_Rm_heads 1 C 18 [(0, v_r 34), (3, v_i i3), (4, v_i i4), (5, v_i i5)] [] s
noncomputable def b_Rm_heads_147 (C : c_C) (i3 : Int32) (i4 : Int32) (i5 : Int32) (s : c_S) : c_R := c_run d_CT T_Rm_heads L_Rm_heads 1 C 147 [(0, v_r 34), (3, v_i i3), (4, v_i i4), (5, v_i i5)] [] s
noncomputable def b_Rm_heads_202 (C : c_C) (i3 : Int32) (i5 : Int32) (s : c_S) : c_R := c_run d_CT T_Rm_heads L_Rm_heads 1 C 202 [(0, v_r 34), (3, v_i i3), (5, v_i i5)] [] s
noncomputable def b_Rm_manyBehind_0 (C : c_C) (i1 : Int32) (s : c_S) : c_R := c_run d_CT T_Rm_manyBehind L_Rm_manyBehind 1 C 0 [(0, v_r 34), (1, v_i i1)] [] s
noncomputable def b_Rm_manyBehind_4 (C : c_C) (i2 : Int32) (i3 : Int32) (s : c_S) : c_R := c_run d_CT T_Rm_manyBehind L_Rm_manyBehind 1 C 4 [(0, v_r 34), (2, v_i i2), (3, v_i i3)] [] s
noncomputable def b_Rm_asks_0 (C : c_C)  (s : c_S) : c_R := c_run d_CT T_Rm_asks L_Rm_asks 1 C 0 [(0, v_r 34)] [] s
noncomputable def b_Rm_sameFamilies_0 (C : c_C) (i1 : Int32) (i2 : Int32) (i3 : Int32) (i4 : Int32) (s : c_S) : c_R := c_run d_CT T_Rm_sameFamilies L_Rm_sameFamilies 1 C 0 [(0, v_r 34), (1, v_i i1), (2, v_i i2), (3, v_i i3), (4, v_i i4)] [] s
noncomputable def b_Rm_sameAsked_0 (C : c_C) (i1 : Int32) (i2 : Int32) (i3 : Int32) (i4 : Int32) (s : c_S) : c_R := c_run d_CT T_Rm_sameAsked L_Rm_sameAsked 1 C 0 [(0, v_r 34), (1, v_i i1), (2, v_i i2), (3, v_i i3), (4, v_i i4)] [] s
noncomputable def b_Rm_sameAsked_26 (C : c_C) (i3 : Int32) (i4 : Int32) (i5 : Int32) (i6 : Int32) (i7 : Int32) (i8 : Int32) (s : c_S) : c_R := c_run d_CT T_Rm_sameAsked L_Rm_sameAsked 1 C 26 [(0, v_r 34), (3, v_i i3), (4, v_i i4), (5, v_i i5), (6, v_i i6), (7, v_i i7), (8, v_i i8)] [] s
noncomputable def b_Rm_sameAsked_53 (C : c_C) (i5 : Int32) (i6 : Int32) (i7 : Int32) (i8 : Int32) (i9 : Int32) (i10 : Int32) (i11 : Int32) (i12 : Int32) (s : c_S) : c_R := c_run d_CT T_Rm_sameAsked L_Rm_sameAsked 1 C 53 [(0, v_r 34), (5, v_i i5), (6, v_i i6), (7, v_i i7), (8, v_i i8), (9, v_i i9), (10, v_i i10), (11, v_i i11), (12, v_i i12)] [] s
noncomputable def b_Rm_sameAsked_114 (C : c_C) (i6 : Int32) (i7 : Int32) (i8 : Int32) (i9 : Int32) (i13 : Int32) (i14 : Int32) (i15 : Int32) (s : c_S) : c_R := c_run d_CT T_Rm_sameAsked L_Rm_sameAsked 1 C 114 [(0, v_r 34), (6, v_i i6), (7, v_i i7), (8, v_i i8), (9, v_i i9), (13, v_i i13), (14, v_i i14), (15, v_i i15)] [] s
noncomputable def b_Rm_behindOf_0 (C : c_C) (i1 : Int32) (i2 : Int32) (s : c_S) : c_R := c_run d_CT T_Rm_behindOf L_Rm_behindOf 1 C 0 [(0, v_r 34), (1, v_i i1), (2, v_i i2)] [] s
noncomputable def b_Rm_behindOf_5 (C : c_C) (i2 : Int32) (i3 : Int32) (i4 : Int32) (s : c_S) : c_R := c_run d_CT T_Rm_behindOf L_Rm_behindOf 1 C 5 [(0, v_r 34), (2, v_i i2), (3, v_i i3), (4, v_i i4)] [] s
noncomputable def b_Rm_sameSpines_0 (C : c_C) (i1 : Int32) (i2 : Int32) (i3 : Int32) (i4 : Int32) (s : c_S) : c_R := c_run d_CT T_Rm_sameSpines L_Rm_sameSpines 1 C 0 [(0, v_r 34), (1, v_i i1), (2, v_i i2), (3, v_i i3), (4, v_i i4)] [] s
noncomputable def b_Rm_sameSpines_34 (C : c_C) (i5 : Int32) (i6 : Int32) (i7 : Int32) (s : c_S) : c_R := c_run d_CT T_Rm_sameSpines L_Rm_sameSpines 1 C 34 [(0, v_r 34), (5, v_i i5), (6, v_i i6), (7, v_i i7)] [] s
noncomputable def b_Rm_sameSpines_32 (C : c_C)  (s : c_S) : c_R := c_run d_CT T_Rm_sameSpines L_Rm_sameSpines 1 C 32 [] [] s
noncomputable def b_Rm_sameBehind_0 (C : c_C) (i1 : Int32) (i2 : Int32) (i3 : Int32) (i4 : Int32) (s : c_S) : c_R := c_run d_CT T_Rm_sameBehind L_Rm_sameBehind 1 C 0 [(0, v_r 34), (1, v_i i1), (2, v_i i2), (3, v_i i3), (4, v_i i4)] [] s
noncomputable def b_Rm_sameBehind_13 (C : c_C) (i5 : Int32) (i6 : Int32) (i7 : Int32) (i8 : Int32) (s : c_S) : c_R := c_run d_CT T_Rm_sameBehind L_Rm_sameBehind 1 C 13 [(0, v_r 34), (5, v_i i5), (6, v_i i6), (7, v_i i7), (8, v_i i8)] [] s
noncomputable def b_Rm_sameBehind_49 (C : c_C) (i7 : Int32) (i8 : Int32) (i10 : Int32) (i11 : Int32) (i12 : Int32) (s : c_S) : c_R := c_run d_CT T_Rm_sameBehind L_Rm_sameBehind 1 C 49 [(0, v_r 34), (7, v_i i7), (8, v_i i8), (10, v_i i10), (11, v_i i11), (12, v_i i12)] [] s
noncomputable def b_Rm_sameBehind_97 (C : c_C) (i5 : Int32) (i6 : Int32) (i7 : Int32) (i8 : Int32) (s : c_S) : c_R := c_run d_CT T_Rm_sameBehind L_Rm_sameBehind 1 C 97 [(0, v_r 34), (5, v_i i5), (6, v_i i6), (7, v_i i7), (8, v_i i8)] [] s
noncomputable def b_Rm_append_0 (C : c_C) (i1 : Int32) (i2 : Int32) (s : c_S) : c_R := c_run d_CT T_Rm_append L_Rm_append 1 C 0 [(0, v_r 34), (1, v_i i1), (2, v_i i2)] [] s
noncomputable def b_Rm_sameObjects_0 (C : c_C) (i1 : Int32) (i2 : Int32) (i3 : Int32) (i4 : Int32) (i5 : Int32) (i6 : Int32) (s : c_S) : c_R := c_run d_CT T_Rm_sameObjects L_Rm_sameObjects 1 C 0 [(0, v_r 34), (1, v_i i1), (2, v_i i2), (3, v_i i3), (4, v_i i4), (5, v_i i5), (6, v_i i6)] [] s
noncomputable def b_Rm_sameObjectsAsked_0 (C : c_C) (i1 : Int32) (i2 : Int32) (i3 : Int32) (i4 : Int32) (i5 : Int32) (i6 : Int32) (s : c_S) : c_R := c_run d_CT T_Rm_sameObjectsAsked L_Rm_sameObjectsAsked 1 C 0 [(0, v_r 34), (1, v_i i1), (2, v_i i2), (3, v_i i3), (4, v_i i4), (5, v_i i5), (6, v_i i6)] [] s
noncomputable def b_Rm_sameObjectsAsked_98 (C : c_C) (i3 : Int32) (i4 : Int32) (i8 : Int32) (i9 : Int32) (s : c_S) : c_R := c_run d_CT T_Rm_sameObjectsAsked L_Rm_sameObjectsAsked 1 C 98 [(0, v_r 34), (3, v_i i3), (4, v_i i4), (8, v_i i8), (9, v_i i9)] [] s
noncomputable def b_Rm_sameObjectsAsked_38 (C : c_C) (i1 : Int32) (i2 : Int32) (i3 : Int32) (i4 : Int32) (i7 : Int32) (i8 : Int32) (i9 : Int32) (s : c_S) : c_R := c_run d_CT T_Rm_sameObjectsAsked L_Rm_sameObjectsAsked 1 C 38 [(0, v_r 34), (1, v_i i1), (2, v_i i2), (3, v_i i3), (4, v_i i4), (7, v_i i7), (8, v_i i8), (9, v_i i9)] [] s
noncomputable def b_Rm_sameObjectsAsked_148 (C : c_C) (i8 : Int32) (i9 : Int32) (s : c_S) : c_R := c_run d_CT T_Rm_sameObjectsAsked L_Rm_sameObjectsAsked 1 C 148 [(0, v_r 34), (8, v_i i8), (9, v_i i9)] [] s
noncomputable def b_Rm_sameObjectsAsked_181 (C : c_C) (i8 : Int32) (i9 : Int32) (s : c_S) : c_R := c_run d_CT T_Rm_sameObjectsAsked L_Rm_sameObjectsAsked 1 C 181 [(0, v_r 34), (8, v_i i8), (9, v_i i9)] [] s
noncomputable def b_Rm_equalFamilies_0 (C : c_C) (i1 : Int32) (i2 : Int32) (i3 : Int32) (i4 : Int32) (s : c_S) : c_R := c_run d_CT T_Rm_equalFamilies L_Rm_equalFamilies 1 C 0 [(0, v_r 34), (1, v_i i1), (2, v_i i2), (3, v_i i3), (4, v_i i4)] [] s
noncomputable def b_Rm_equalFamilies_29 (C : c_C) (i1 : Int32) (i2 : Int32) (i3 : Int32) (i4 : Int32) (i5 : Int32) (i6 : Int32) (i7 : Int32) (i8 : Int32) (s : c_S) : c_R := c_run d_CT T_Rm_equalFamilies L_Rm_equalFamilies 1 C 29 [(0, v_r 34), (1, v_i i1), (2, v_i i2), (3, v_i i3), (4, v_i i4), (5, v_i i5), (6, v_i i6), (7, v_i i7), (8, v_i i8)] [] s
noncomputable def b_Rm_wanted_0 (C : c_C) (i1 : Int32) (i2 : Int32) (i3 : Int32) (i4 : Int32) (i5 : Int32) (s : c_S) : c_R := c_run d_CT T_Rm_wanted L_Rm_wanted 0 C 0 [(0, v_r 34), (1, v_i i1), (2, v_i i2), (3, v_i i3), (4, v_i i4), (5, v_i i5)] [] s
noncomputable def b_Rm_wanted_30 (C : c_C) (i5 : Int32) (t0 : Int32) (s : c_S) : c_R := c_run d_CT T_Rm_wanted L_Rm_wanted 0 C 30 [(5, v_i i5)] [v_i t0, v_r 34] s
noncomputable def b_Rm_bind_0 (C : c_C) (i1 : Int32) (s : c_S) : c_R := c_run d_CT T_Rm_bind L_Rm_bind 0 C 0 [(0, v_r 34), (1, v_i i1)] [] s
noncomputable def b_Rm_unbind_0 (C : c_C)  (s : c_S) : c_R := c_run d_CT T_Rm_unbind L_Rm_unbind 0 C 0 [(0, v_r 34)] [] s
noncomputable def b_Rm_find_0 (C : c_C) (i1 : Int32) (s : c_S) : c_R := c_run d_CT T_Rm_find L_Rm_find 0 C 0 [(0, v_r 34), (1, v_i i1)] [] s
noncomputable def b_Rm_find_32 (C : c_C) (i1 : Int32) (i2 : Int32) (i3 : Int32) (s : c_S) : c_R := c_run d_CT T_Rm_find L_Rm_find 0 C 32 [(0, v_r 34), (1, v_i i1), (2, v_i i2), (3, v_i i3)] [] s
noncomputable def b_Rm_isFamilyNode_0 (C : c_C) (i1 : Int32) (s : c_S) : c_R := c_run d_CT T_Rm_isFamilyNode L_Rm_isFamilyNode 2 C 0 [(0, v_r 34), (1, v_i i1)] [] s
noncomputable def b_Rm_family_0 (C : c_C) (i1 : Int32) (i2 : Int32) (s : c_S) : c_R := c_run d_CT T_Rm_family L_Rm_family 0 C 0 [(0, v_r 34), (1, v_i i1), (2, v_i i2)] [] s
noncomputable def b_Rm_family_189 (C : c_C) (i1 : Int32) (s : c_S) : c_R := c_run d_CT T_Rm_family L_Rm_family 0 C 189 [(0, v_r 34), (1, v_i i1)] [] s
noncomputable def b_Rm_familyBehind_0 (C : c_C) (i1 : Int32) (s : c_S) : c_R := c_run d_CT T_Rm_familyBehind L_Rm_familyBehind 0 C 0 [(0, v_r 34), (1, v_i i1)] [] s
noncomputable def b_Rm_familyBehind_7 (C : c_C) (i1 : Int32) (i2 : Int32) (i3 : Int32) (s : c_S) : c_R := c_run d_CT T_Rm_familyBehind L_Rm_familyBehind 0 C 7 [(0, v_r 34), (1, v_i i1), (2, v_i i2), (3, v_i i3)] [] s
noncomputable def b_Rm_familyBehind_32 (C : c_C) (i1 : Int32) (i2 : Int32) (i3 : Int32) (s : c_S) : c_R := c_run d_CT T_Rm_familyBehind L_Rm_familyBehind 0 C 32 [(0, v_r 34), (1, v_i i1), (2, v_i i2), (3, v_i i3)] [] s
noncomputable def b_Rm_familyBehind_62 (C : c_C) (i1 : Int32) (i2 : Int32) (i3 : Int32) (s : c_S) : c_R := c_run d_CT T_Rm_familyBehind L_Rm_familyBehind 0 C 62 [(0, v_r 34), (1, v_i i1), (2, v_i i2), (3, v_i i3)] [] s
noncomputable def b_Rm_familyBehind_89 (C : c_C) (i2 : Int32) (i3 : Int32) (s : c_S) : c_R := c_run d_CT T_Rm_familyBehind L_Rm_familyBehind 0 C 89 [(0, v_r 34), (2, v_i i2), (3, v_i i3)] [] s
noncomputable def b_Rm_familyBehind_154 (C : c_C) (i2 : Int32) (i3 : Int32) (s : c_S) : c_R := c_run d_CT T_Rm_familyBehind L_Rm_familyBehind 0 C 154 [(0, v_r 34), (2, v_i i2), (3, v_i i3)] [] s
noncomputable def b_Rm_familyBehind_178 (C : c_C) (i2 : Int32) (i3 : Int32) (i4 : Int32) (i5 : Int32) (s : c_S) : c_R := c_run d_CT T_Rm_familyBehind L_Rm_familyBehind 0 C 178 [(0, v_r 34), (2, v_i i2), (3, v_i i3), (4, v_i i4), (5, v_i i5)] [] s
noncomputable def b_Rm_familyBehind_245 (C : c_C) (i2 : Int32) (i3 : Int32) (i4 : Int32) (i5 : Int32) (i6 : Int32) (s : c_S) : c_R := c_run d_CT T_Rm_familyBehind L_Rm_familyBehind 0 C 245 [(0, v_r 34), (2, v_i i2), (3, v_i i3), (4, v_i i4), (5, v_i i5), (6, v_i i6)] [] s
noncomputable def b_Rm_familyBehind_257 (C : c_C) (i2 : Int32) (i3 : Int32) (i4 : Int32) (i5 : Int32) (i6 : Int32) (s : c_S) : c_R := c_run d_CT T_Rm_familyBehind L_Rm_familyBehind 0 C 257 [(0, v_r 34), (2, v_i i2), (3, v_i i3), (4, v_i i4), (5, v_i i5), (6, v_i i6)] [] s
noncomputable def b_Rm_familyBehind_352 (C : c_C) (i2 : Int32) (i4 : Int32) (i5 : Int32) (s : c_S) : c_R := c_run d_CT T_Rm_familyBehind L_Rm_familyBehind 0 C 352 [(0, v_r 34), (2, v_i i2), (4, v_i i4), (5, v_i i5)] [] s
noncomputable def b_Rm_familyBehind_292 (C : c_C) (i2 : Int32) (i3 : Int32) (i4 : Int32) (i5 : Int32) (i6 : Int32) (i7 : Int32) (i8 : Int32) (i9 : Int32) (i10 : Int32) (s : c_S) : c_R := c_run d_CT T_Rm_familyBehind L_Rm_familyBehind 0 C 292 [(0, v_r 34), (2, v_i i2), (3, v_i i3), (4, v_i i4), (5, v_i i5), (6, v_i i6), (7, v_i i7), (8, v_i i8), (9, v_i i9), (10, v_i i10)] [] s
noncomputable def b_Rm_is_0 (C : c_C) (i1 : Int32) (i2 : Int32) (i3 : Int32) (s : c_S) : c_R := c_run d_CT T_Rm_is L_Rm_is 0 C 0 [(0, v_r 34), (1, v_i i1), (2, v_i i2), (3, v_i i3)] [] s
noncomputable def b_Rm_object_0 (C : c_C) (i1 : Int32) (s : c_S) : c_R := c_run d_CT T_Rm_object L_Rm_object 0 C 0 [(0, v_r 34), (1, v_i i1)] [] s
noncomputable def b_Rm_name_0 (C : c_C) (i1 : Int32) (s : c_S) : c_R := c_run d_CT T_Rm_name L_Rm_name 0 C 0 [(0, v_r 34), (1, v_i i1)] [] s
noncomputable def b_Rm_name_87 (C : c_C) (t0 : Int32) (s : c_S) : c_R := c_run d_CT T_Rm_name L_Rm_name 0 C 87 [(0, v_r 34)] [v_i t0] s
noncomputable def b_Rm_lambda_0 (C : c_C) (i1 : Int32) (s : c_S) : c_R := c_run d_CT T_Rm_lambda L_Rm_lambda 0 C 0 [(0, v_r 34), (1, v_i i1)] [] s
noncomputable def b_Rm_lambda_72 (C : c_C) (i2 : Int32) (s : c_S) : c_R := c_run d_CT T_Rm_lambda L_Rm_lambda 0 C 72 [(0, v_r 34), (2, v_i i2)] [] s
noncomputable def b_Rm_objectBehind_0 (C : c_C) (i1 : Int32) (s : c_S) : c_R := c_run d_CT T_Rm_objectBehind L_Rm_objectBehind 0 C 0 [(0, v_r 34), (1, v_i i1)] [] s
noncomputable def b_Rm_objectBehind_7 (C : c_C) (i2 : Int32) (i3 : Int32) (s : c_S) : c_R := c_run d_CT T_Rm_objectBehind L_Rm_objectBehind 0 C 7 [(0, v_r 34), (2, v_i i2), (3, v_i i3)] [] s
noncomputable def b_Rm_objectBehind_53 (C : c_C) (i3 : Int32) (s : c_S) : c_R := c_run d_CT T_Rm_objectBehind L_Rm_objectBehind 0 C 53 [(0, v_r 34), (3, v_i i3)] [] s
noncomputable def b_Rm_oneBehind_0 (C : c_C) (i1 : Int32) (s : c_S) : c_R := c_run d_CT T_Rm_oneBehind L_Rm_oneBehind 0 C 0 [(0, v_r 34), (1, v_i i1)] [] s
noncomputable def b_Rm_oneBehind_62 (C : c_C) (i1 : Int32) (i2 : Int32) (i3 : Int32) (i4 : Int32) (s : c_S) : c_R := c_run d_CT T_Rm_oneBehind L_Rm_oneBehind 0 C 62 [(0, v_r 34), (1, v_i i1), (2, v_i i2), (3, v_i i3), (4, v_i i4)] [] s
noncomputable def b_Rm_declare_0 (C : c_C)  (s : c_S) : c_R := c_run d_CT T_Rm_declare L_Rm_declare 1 C 0 [(0, v_r 34)] [] s
noncomputable def b_Rm_declare_9 (C : c_C)  (s : c_S) : c_R := c_run d_CT T_Rm_declare L_Rm_declare 1 C 9 [(0, v_r 34)] [] s
noncomputable def b_Rm_declaration_0 (C : c_C)  (s : c_S) : c_R := c_run d_CT T_Rm_declaration L_Rm_declaration 0 C 0 [(0, v_r 34)] [] s
noncomputable def b_Rm_declaration_62 (C : c_C) (i1 : Int32) (s : c_S) : c_R := c_run d_CT T_Rm_declaration L_Rm_declaration 0 C 62 [(0, v_r 34), (1, v_i i1)] [] s
noncomputable def b_Rm_declaration_104 (C : c_C) (i1 : Int32) (i2 : Int32) (i3 : Int32) (i4 : Int32) (s : c_S) : c_R := c_run d_CT T_Rm_declaration L_Rm_declaration 0 C 104 [(0, v_r 34), (1, v_i i1), (2, v_i i2), (3, v_i i3), (4, v_i i4)] [] s
noncomputable def b_Rm_declaration_138 (C : c_C) (i1 : Int32) (i2 : Int32) (i3 : Int32) (i4 : Int32) (i5 : Int32) (s : c_S) : c_R := c_run d_CT T_Rm_declaration L_Rm_declaration 0 C 138 [(0, v_r 34), (1, v_i i1), (2, v_i i2), (3, v_i i3), (4, v_i i4), (5, v_i i5)] [] s
noncomputable def b_Rm_declaration_177 (C : c_C) (i1 : Int32) (i2 : Int32) (i3 : Int32) (i4 : Int32) (i5 : Int32) (s : c_S) : c_R := c_run d_CT T_Rm_declaration L_Rm_declaration 0 C 177 [(0, v_r 34), (1, v_i i1), (2, v_i i2), (3, v_i i3), (4, v_i i4), (5, v_i i5)] [] s
noncomputable def b_Rm_declaration_220 (C : c_C) (i1 : Int32) (i2 : Int32) (i3 : Int32) (s : c_S) : c_R := c_run d_CT T_Rm_declaration L_Rm_declaration 0 C 220 [(0, v_r 34), (1, v_i i1), (2, v_i i2), (3, v_i i3)] [] s
noncomputable def b_Rm_declaration_294 (C : c_C) (i6 : Int32) (s : c_S) : c_R := c_run d_CT T_Rm_declaration L_Rm_declaration 0 C 294 [(0, v_r 34), (6, v_i i6)] [] s
noncomputable def b_Rm_say_0 (C : c_C) (i1 : Int32) (s : c_S) : c_R := c_run d_CT T_Rm_say L_Rm_say 0 C 0 [(0, v_r 34), (1, v_i i1)] [] s
noncomputable def b_Rm_signOf_0 (C : c_C) (i0 : Int32) (s : c_S) : c_R := c_run d_CT T_Rm_signOf L_Rm_signOf 1 C 0 [(0, v_i i0)] [] s
noncomputable def b_Rm_sayPart_0 (C : c_C) (j1 : Int64) (s : c_S) : c_R := c_run d_CT T_Rm_sayPart L_Rm_sayPart 0 C 0 [(0, v_r 34), (1, v_l j1)] [] s
noncomputable def b_Rm_sayPart_2 (C : c_C) (j1 : Int64) (j3 : Int64) (s : c_S) : c_R := c_run d_CT T_Rm_sayPart L_Rm_sayPart 0 C 2 [(0, v_r 34), (1, v_l j1), (3, v_l j3)] [] s
noncomputable def b_Rm_sayPart_24 (C : c_C) (j1 : Int64) (j3 : Int64) (j5 : Int64) (s : c_S) : c_R := c_run d_CT T_Rm_sayPart L_Rm_sayPart 0 C 24 [(0, v_r 34), (1, v_l j1), (3, v_l j3), (5, v_l j5)] [] s
noncomputable def b_Rm_sayVar_0 (C : c_C) (i1 : Int32) (s : c_S) : c_R := c_run d_CT T_Rm_sayVar L_Rm_sayVar 0 C 0 [(0, v_r 34), (1, v_i i1)] [] s
noncomputable def b_Rm_sayVar_2 (C : c_C) (i1 : Int32) (i2 : Int32) (s : c_S) : c_R := c_run d_CT T_Rm_sayVar L_Rm_sayVar 0 C 2 [(0, v_r 34), (1, v_i i1), (2, v_i i2)] [] s
noncomputable def b_Rm_sayVar_39 (C : c_C) (i1 : Int32) (s : c_S) : c_R := c_run d_CT T_Rm_sayVar L_Rm_sayVar 0 C 39 [(0, v_r 34), (1, v_i i1)] [] s
noncomputable def b_Rm_sayVar_59 (C : c_C) (i1 : Int32) (s : c_S) : c_R := c_run d_CT T_Rm_sayVar L_Rm_sayVar 0 C 59 [(0, v_r 34), (1, v_i i1)] [] s
noncomputable def b_Rm_countXs_0 (C : c_C)  (s : c_S) : c_R := c_run d_CT T_Rm_countXs L_Rm_countXs 0 C 0 [(0, v_r 34)] [] s
noncomputable def b_Rm_countXs_7 (C : c_C) (i1 : Int32) (s : c_S) : c_R := c_run d_CT T_Rm_countXs L_Rm_countXs 0 C 7 [(0, v_r 34), (1, v_i i1)] [] s
noncomputable def b_Rm_countXs_15 (C : c_C) (i1 : Int32) (i2 : Int32) (s : c_S) : c_R := c_run d_CT T_Rm_countXs L_Rm_countXs 0 C 15 [(0, v_r 34), (1, v_i i1), (2, v_i i2)] [] s
noncomputable def b_Rm_isXs_0 (C : c_C) (i1 : Int32) (s : c_S) : c_R := c_run d_CT T_Rm_isXs L_Rm_isXs 2 C 0 [(0, v_r 34), (1, v_i i1)] [] s
noncomputable def b_Rm_isXs_44 (C : c_C) (i2 : Int32) (i3 : Int32) (s : c_S) : c_R := c_run d_CT T_Rm_isXs L_Rm_isXs 2 C 44 [(0, v_r 34), (2, v_i i2), (3, v_i i3)] [] s
noncomputable def b_Rm_takeLetters_0 (C : c_C) (j1 : Int64) (s : c_S) : c_R := c_run d_CT T_Rm_takeLetters L_Rm_takeLetters 0 C 0 [(0, v_r 34), (1, v_l j1)] [] s
noncomputable def b_Rm_takeLetters_2 (C : c_C) (j1 : Int64) (j3 : Int64) (s : c_S) : c_R := c_run d_CT T_Rm_takeLetters L_Rm_takeLetters 0 C 2 [(0, v_r 34), (1, v_l j1), (3, v_l j3)] [] s
noncomputable def b_Rm_takeLetters_24 (C : c_C) (j1 : Int64) (j3 : Int64) (j5 : Int64) (s : c_S) : c_R := c_run d_CT T_Rm_takeLetters L_Rm_takeLetters 0 C 24 [(0, v_r 34), (1, v_l j1), (3, v_l j3), (5, v_l j5)] [] s
noncomputable def b_Rm_ended_0 (C : c_C) (i1 : Int32) (s : c_S) : c_R := c_run d_CT T_Rm_ended L_Rm_ended 1 C 0 [(0, v_r 34), (1, v_i i1)] [] s
noncomputable def b_Rm_tellFamily_0 (C : c_C) (i1 : Int32) (i2 : Int32) (i3 : Int32) (s : c_S) : c_R := c_run d_CT T_Rm_tellFamily L_Rm_tellFamily 1 C 0 [(0, v_r 34), (1, v_i i1), (2, v_i i2), (3, v_i i3)] [] s
noncomputable def b_Rm_tellFamily_162 (C : c_C) (i3 : Int32) (i5 : Int32) (s : c_S) : c_R := c_run d_CT T_Rm_tellFamily L_Rm_tellFamily 1 C 162 [(0, v_r 34), (3, v_i i3), (5, v_i i5)] [] s
noncomputable def b_Rm_tellFamily_36 (C : c_C) (i3 : Int32) (i5 : Int32) (i6 : Int32) (s : c_S) : c_R := c_run d_CT T_Rm_tellFamily L_Rm_tellFamily 1 C 36 [(0, v_r 34), (3, v_i i3), (5, v_i i5), (6, v_i i6)] [] s
noncomputable def b_Rm_tellFamily_225 (C : c_C) (i4 : Int32) (s : c_S) : c_R := c_run d_CT T_Rm_tellFamily L_Rm_tellFamily 1 C 225 [(0, v_r 34), (4, v_i i4)] [] s
noncomputable def b_Rm_tellFamily_72 (C : c_C) (i3 : Int32) (i4 : Int32) (i5 : Int32) (i6 : Int32) (i7 : Int32) (i8 : Int32) (s : c_S) : c_R := c_run d_CT T_Rm_tellFamily L_Rm_tellFamily 1 C 72 [(0, v_r 34), (3, v_i i3), (4, v_i i4), (5, v_i i5), (6, v_i i6), (7, v_i i7), (8, v_i i8)] [] s
noncomputable def b_Rm_tellFamily_92 (C : c_C) (i3 : Int32) (i5 : Int32) (i6 : Int32) (i7 : Int32) (i8 : Int32) (t0 : Int32) (s : c_S) : c_R := c_run d_CT T_Rm_tellFamily L_Rm_tellFamily 1 C 92 [(0, v_r 34), (3, v_i i3), (5, v_i i5), (6, v_i i6), (7, v_i i7), (8, v_i i8)] [v_i t0] s
noncomputable def b_Rm_tellBehind_0 (C : c_C) (i1 : Int32) (i2 : Int32) (i3 : Int32) (i4 : Int32) (s : c_S) : c_R := c_run d_CT T_Rm_tellBehind L_Rm_tellBehind 1 C 0 [(0, v_r 34), (1, v_i i1), (2, v_i i2), (3, v_i i3), (4, v_i i4)] [] s
noncomputable def b_Rm_tellBehind_12 (C : c_C) (i4 : Int32) (i5 : Int32) (i6 : Int32) (i7 : Int32) (i8 : Int32) (s : c_S) : c_R := c_run d_CT T_Rm_tellBehind L_Rm_tellBehind 1 C 12 [(0, v_r 34), (4, v_i i4), (5, v_i i5), (6, v_i i6), (7, v_i i7), (8, v_i i8)] [] s
noncomputable def b_Rm_tellBehind_45 (C : c_C) (i4 : Int32) (i8 : Int32) (i10 : Int32) (i11 : Int32) (s : c_S) : c_R := c_run d_CT T_Rm_tellBehind L_Rm_tellBehind 1 C 45 [(0, v_r 34), (4, v_i i4), (8, v_i i8), (10, v_i i10), (11, v_i i11)] [] s
noncomputable def b_Rm_tellBehind_96 (C : c_C) (i4 : Int32) (i8 : Int32) (i10 : Int32) (i11 : Int32) (i12 : Int32) (t0 : Int32) (s : c_S) : c_R := c_run d_CT T_Rm_tellBehind L_Rm_tellBehind 1 C 96 [(0, v_r 34), (4, v_i i4), (8, v_i i8), (10, v_i i10), (11, v_i i11), (12, v_i i12)] [v_i t0] s
noncomputable def b_Rm_tellObject_0 (C : c_C) (i1 : Int32) (i2 : Int32) (i3 : Int32) (i4 : Int32) (i5 : Int32) (i6 : Int32) (s : c_S) : c_R := c_run d_CT T_Rm_tellObject L_Rm_tellObject 1 C 0 [(0, v_r 34), (1, v_i i1), (2, v_i i2), (3, v_i i3), (4, v_i i4), (5, v_i i5), (6, v_i i6)] [] s
noncomputable def b_Rm_tellObject_52 (C : c_C) (i7 : Int32) (s : c_S) : c_R := c_run d_CT T_Rm_tellObject L_Rm_tellObject 1 C 52 [(0, v_r 34), (7, v_i i7)] [] s
noncomputable def b_Rm_tellLambda_0 (C : c_C) (i1 : Int32) (i2 : Int32) (i3 : Int32) (i4 : Int32) (s : c_S) : c_R := c_run d_CT T_Rm_tellLambda L_Rm_tellLambda 1 C 0 [(0, v_r 34), (1, v_i i1), (2, v_i i2), (3, v_i i3), (4, v_i i4)] [] s
noncomputable def b_Rm_tellLambda_35 (C : c_C) (i1 : Int32) (i2 : Int32) (i3 : Int32) (i4 : Int32) (i5 : Int32) (i6 : Int32) (i7 : Int32) (i8 : Int32) (s : c_S) : c_R := c_run d_CT T_Rm_tellLambda L_Rm_tellLambda 1 C 35 [(0, v_r 34), (1, v_i i1), (2, v_i i2), (3, v_i i3), (4, v_i i4), (5, v_i i5), (6, v_i i6), (7, v_i i7), (8, v_i i8)] [] s
noncomputable def b_Rm_tellLambda_29 (C : c_C) (i1 : Int32) (i2 : Int32) (i3 : Int32) (i4 : Int32) (i5 : Int32) (i6 : Int32) (i7 : Int32) (i8 : Int32) (s : c_S) : c_R := c_run d_CT T_Rm_tellLambda L_Rm_tellLambda 1 C 29 [(0, v_r 34), (1, v_i i1), (2, v_i i2), (3, v_i i3), (4, v_i i4), (5, v_i i5), (6, v_i i6), (7, v_i i7), (8, v_i i8)] [] s
noncomputable def b_Rm_tellLambda_79 (C : c_C) (i1 : Int32) (i2 : Int32) (i3 : Int32) (i4 : Int32) (i5 : Int32) (i6 : Int32) (i7 : Int32) (i8 : Int32) (t0 : Int32) (s : c_S) : c_R := c_run d_CT T_Rm_tellLambda L_Rm_tellLambda 1 C 79 [(0, v_r 34), (1, v_i i1), (2, v_i i2), (3, v_i i3), (4, v_i i4), (5, v_i i5), (6, v_i i6), (7, v_i i7), (8, v_i i8)] [v_i t0] s
noncomputable def b_Rm_tellLambda_115 (C : c_C) (i1 : Int32) (i2 : Int32) (i3 : Int32) (i4 : Int32) (i7 : Int32) (i8 : Int32) (i10 : Int32) (s : c_S) : c_R := c_run d_CT T_Rm_tellLambda L_Rm_tellLambda 1 C 115 [(0, v_r 34), (1, v_i i1), (2, v_i i2), (3, v_i i3), (4, v_i i4), (7, v_i i7), (8, v_i i8), (10, v_i i10)] [] s
noncomputable def b_Rm_tellLambda_154 (C : c_C) (i9 : Int32) (s : c_S) : c_R := c_run d_CT T_Rm_tellLambda L_Rm_tellLambda 1 C 154 [(0, v_r 34), (9, v_i i9)] [] s
noncomputable def b_Rm_tellHead_0 (C : c_C) (i1 : Int32) (i2 : Int32) (i3 : Int32) (i4 : Int32) (s : c_S) : c_R := c_run d_CT T_Rm_tellHead L_Rm_tellHead 1 C 0 [(0, v_r 34), (1, v_i i1), (2, v_i i2), (3, v_i i3), (4, v_i i4)] [] s
noncomputable def b_Rm_tellHead_42 (C : c_C) (i3 : Int32) (i6 : Int32) (i7 : Int32) (s : c_S) : c_R := c_run d_CT T_Rm_tellHead L_Rm_tellHead 1 C 42 [(0, v_r 34), (3, v_i i3), (6, v_i i6), (7, v_i i7)] [] s
noncomputable def b_Rm_tellHead_33 (C : c_C) (i3 : Int32) (i6 : Int32) (i7 : Int32) (s : c_S) : c_R := c_run d_CT T_Rm_tellHead L_Rm_tellHead 1 C 33 [(0, v_r 34), (3, v_i i3), (6, v_i i6), (7, v_i i7)] [] s
noncomputable def b_Rm_tellHead_43 (C : c_C) (i3 : Int32) (i6 : Int32) (i7 : Int32) (t0 : Int32) (s : c_S) : c_R := c_run d_CT T_Rm_tellHead L_Rm_tellHead 1 C 43 [(0, v_r 34), (3, v_i i3), (6, v_i i6), (7, v_i i7)] [v_i t0] s
noncomputable def b_Rm_tellHead_56 (C : c_C) (i3 : Int32) (i6 : Int32) (i7 : Int32) (i8 : Int32) (s : c_S) : c_R := c_run d_CT T_Rm_tellHead L_Rm_tellHead 1 C 56 [(0, v_r 34), (3, v_i i3), (6, v_i i6), (7, v_i i7), (8, v_i i8)] [] s
noncomputable def b_Rm_tellHead_100 (C : c_C) (i3 : Int32) (i6 : Int32) (i7 : Int32) (i8 : Int32) (s : c_S) : c_R := c_run d_CT T_Rm_tellHead L_Rm_tellHead 1 C 100 [(0, v_r 34), (3, v_i i3), (6, v_i i6), (7, v_i i7), (8, v_i i8)] [] s
noncomputable def b_Rm_tellHead_168 (C : c_C) (i8 : Int32) (t0 : Int32) (s : c_S) : c_R := c_run d_CT T_Rm_tellHead L_Rm_tellHead 1 C 168 [(0, v_r 34), (8, v_i i8)] [v_i t0] s
noncomputable def b_Rm_tellHead_181 (C : c_C) (i5 : Int32) (s : c_S) : c_R := c_run d_CT T_Rm_tellHead L_Rm_tellHead 1 C 181 [(0, v_r 34), (5, v_i i5)] [] s
noncomputable def b_Rm_askOne_0 (C : c_C)  (s : c_S) : c_R := c_run d_CT T_Rm_askOne L_Rm_askOne 1 C 0 [(0, v_r 34)] [] s
noncomputable def b_Rm_askOne_33 (C : c_C) (i1 : Int32) (s : c_S) : c_R := c_run d_CT T_Rm_askOne L_Rm_askOne 1 C 33 [(0, v_r 34), (1, v_i i1)] [] s
noncomputable def b_Rm_tell_0 (C : c_C) (i1 : Int32) (s : c_S) : c_R := c_run d_CT T_Rm_tell L_Rm_tell 1 C 0 [(0, v_r 34), (1, v_i i1)] [] s
noncomputable def b_Rm_tell_30 (C : c_C) (i1 : Int32) (i2 : Int32) (i3 : Int32) (s : c_S) : c_R := c_run d_CT T_Rm_tell L_Rm_tell 1 C 30 [(0, v_r 34), (1, v_i i1), (2, v_i i2), (3, v_i i3)] [] s
noncomputable def b_Rm_tell_108 (C : c_C) (i2 : Int32) (s : c_S) : c_R := c_run d_CT T_Rm_tell L_Rm_tell 1 C 108 [(0, v_r 34), (2, v_i i2)] [] s
noncomputable def b_Rm_tell_86 (C : c_C) (i2 : Int32) (t0 : Int32) (s : c_S) : c_R := c_run d_CT T_Rm_tell L_Rm_tell 1 C 86 [(0, v_r 34), (2, v_i i2)] [v_i t0] s
noncomputable def b_Rm_tell_123 (C : c_C) (i4 : Int32) (s : c_S) : c_R := c_run d_CT T_Rm_tell L_Rm_tell 1 C 123 [(0, v_r 34), (4, v_i i4)] [] s
noncomputable def b_Rm_canon_0 (C : c_C)  (s : c_S) : c_R := c_run d_CT T_Rm_canon L_Rm_canon 1 C 0 [(0, v_r 34)] [] s
noncomputable def b_Rm_type_0 (C : c_C)  (s : c_S) : c_R := c_run d_CT T_Rm_type L_Rm_type 1 C 0 [(0, v_r 34)] [] s
noncomputable def b_Rm_equal_0 (C : c_C)  (s : c_S) : c_R := c_run d_CT T_Rm_equal L_Rm_equal 1 C 0 [(0, v_r 34)] [] s
noncomputable def b_Rm_equal_32 (C : c_C) (i1 : Int32) (i2 : Int32) (s : c_S) : c_R := c_run d_CT T_Rm_equal L_Rm_equal 1 C 32 [(0, v_r 34), (1, v_i i1), (2, v_i i2)] [] s
noncomputable def b_Rm_equal_39 (C : c_C) (i1 : Int32) (i2 : Int32) (s : c_S) : c_R := c_run d_CT T_Rm_equal L_Rm_equal 1 C 39 [(0, v_r 34), (1, v_i i1), (2, v_i i2)] [] s
noncomputable def b_Rm_equal_40 (C : c_C) (i1 : Int32) (i2 : Int32) (t0 : Int32) (s : c_S) : c_R := c_run d_CT T_Rm_equal L_Rm_equal 1 C 40 [(0, v_r 34), (1, v_i i1), (2, v_i i2)] [v_i t0] s
noncomputable def b_Rm_equal_69 (C : c_C) (i1 : Int32) (i2 : Int32) (i3 : Int32) (s : c_S) : c_R := c_run d_CT T_Rm_equal L_Rm_equal 1 C 69 [(0, v_r 34), (1, v_i i1), (2, v_i i2), (3, v_i i3)] [] s
noncomputable def b_Rm_equal_86 (C : c_C) (i1 : Int32) (i2 : Int32) (i3 : Int32) (s : c_S) : c_R := c_run d_CT T_Rm_equal L_Rm_equal 1 C 86 [(0, v_r 34), (1, v_i i1), (2, v_i i2), (3, v_i i3)] [] s
noncomputable def b_Rm_equal_110 (C : c_C) (i1 : Int32) (i2 : Int32) (i3 : Int32) (i4 : Int32) (i5 : Int32) (s : c_S) : c_R := c_run d_CT T_Rm_equal L_Rm_equal 1 C 110 [(0, v_r 34), (1, v_i i1), (2, v_i i2), (3, v_i i3), (4, v_i i4), (5, v_i i5)] [] s
noncomputable def b_Rm_equal_152 (C : c_C) (i1 : Int32) (i2 : Int32) (i3 : Int32) (i4 : Int32) (i5 : Int32) (i6 : Int32) (s : c_S) : c_R := c_run d_CT T_Rm_equal L_Rm_equal 1 C 152 [(0, v_r 34), (1, v_i i1), (2, v_i i2), (3, v_i i3), (4, v_i i4), (5, v_i i5), (6, v_i i6)] [] s
noncomputable def b_Rm_equal_194 (C : c_C) (i1 : Int32) (i6 : Int32) (s : c_S) : c_R := c_run d_CT T_Rm_equal L_Rm_equal 1 C 194 [(0, v_r 34), (1, v_i i1), (6, v_i i6)] [] s
noncomputable def b_Rm_named_0 (C : c_C)  (s : c_S) : c_R := c_run d_CT T_Rm_named L_Rm_named 1 C 0 [(0, v_r 34)] [] s
noncomputable def b_Rm_constant_0 (C : c_C) (i1 : Int32) (i2 : Int32) (s : c_S) : c_R := c_run d_CT T_Rm_constant L_Rm_constant 1 C 0 [(0, v_r 34), (1, v_i i1), (2, v_i i2)] [] s
noncomputable def b_Rm_constant_38 (C : c_C) (i1 : Int32) (i2 : Int32) (i3 : Int32) (i4 : Int32) (s : c_S) : c_R := c_run d_CT T_Rm_constant L_Rm_constant 1 C 38 [(0, v_r 34), (1, v_i i1), (2, v_i i2), (3, v_i i3), (4, v_i i4)] [] s
noncomputable def b_Rm_size_0 (C : c_C)  (s : c_S) : c_R := c_run d_CT T_Rm_size L_Rm_size 1 C 0 [(0, v_r 34)] [] s
noncomputable def b_Rm_out_0 (C : c_C) (i1 : Int32) (s : c_S) : c_R := c_run d_CT T_Rm_out L_Rm_out 1 C 0 [(0, v_r 34), (1, v_i i1)] [] s
noncomputable def b_Rm_forget_0 (C : c_C) (i1 : Int32) (s : c_S) : c_R := c_run d_CT T_Rm_forget L_Rm_forget 1 C 0 [(0, v_r 34), (1, v_i i1)] [] s
noncomputable def b_Rm_count_0 (C : c_C) (i1 : Int32) (s : c_S) : c_R := c_run d_CT T_Rm_count L_Rm_count 1 C 0 [(0, v_r 34), (1, v_i i1)] [] s
set_option maxRecDepth 20000 in
theorem e_Rm_feed_0 (C : c_C) (j1 : Int64) (j3 : Int64) (j5 : Int64) (s : c_S) : b_Rm_feed_0 C j1 j3 j5 s =
  c_bd (C 19 [v_r 34, v_l j1] (c_put s 34 0 0)) fun s1 _ =>
  c_bd (C 19 [v_r 34, v_l j3] s1) fun s2 _ =>
  c_bd (C 19 [v_r 34, v_l j5] s2) fun s3 _ =>
  some (s3, s3.1 34 2)
  := (c_blk_eq d_CT T_Rm_feed L_Rm_feed 1 C 400 0 [(0, v_r 34), (1, v_l j1), (3, v_l j3), (5, v_l j5)] [] s).trans rfl
theorem m_Rm_feed (d : Nat) (j1 : Int64) (j3 : Int64) (j5 : Int64) (s : c_S) : c_M (d + 1) 18 [v_r 34, v_l j1, v_l j3, v_l j5] s = b_Rm_feed_0 (c_M d) j1 j3 j5 s := rfl
set_option maxRecDepth 20000 in
theorem e_Rm_lay_0 (C : c_C) (j1 : Int64) (s : c_S) : b_Rm_lay_0 C j1 s =
  b_Rm_lay_3 C j1 56 s
  := (c_blk_eq d_CT T_Rm_lay L_Rm_lay 0 C 400 0 [(0, v_r 34), (1, v_l j1)] [] s).trans rfl
set_option maxRecDepth 20000 in
theorem e_Rm_lay_3 (C : c_C) (j1 : Int64) (i3 : Int32) (s : c_S) : b_Rm_lay_3 C j1 i3 s =
  if i3 < 0 then
    some (s, 0)
  else
    if ((j1 >>> ((i3 : Int32).toInt64 &&& 63)).toInt32) &&& 255 = 10 then
      b_Rm_lay_38 C j1 i3 (((j1 >>> ((i3 : Int32).toInt64 &&& 63)).toInt32) &&& 255) s
    else
      if ((j1 >>> ((i3 : Int32).toInt64 &&& 63)).toInt32) &&& 255 < 32 then
        b_Rm_lay_3 C j1 (i3 + (-8)) s
      else
        if (126 : Int32) < ((j1 >>> ((i3 : Int32).toInt64 &&& 63)).toInt32) &&& 255 then
          b_Rm_lay_3 C j1 (i3 + (-8)) s
        else
          b_Rm_lay_38 C j1 i3 (((j1 >>> ((i3 : Int32).toInt64 &&& 63)).toInt32) &&& 255) s
  := (c_blk_eq d_CT T_Rm_lay L_Rm_lay 0 C 400 3 [(0, v_r 34), (1, v_l j1), (3, v_i i3)] [] s).trans rfl
set_option maxRecDepth 20000 in
theorem e_Rm_lay_38 (C : c_C) (j1 : Int64) (i3 : Int32) (i4 : Int32) (s : c_S) : b_Rm_lay_38 C j1 i3 i4 s =
  if s.1 34 2 < 4000 then
    c_rg (s.1 34 2) 4000 (
      b_Rm_lay_3 C j1 (i3 + (-8)) (c_put (c_put s 35 ((s.1 34 2).toNatClampNeg) i4) 34 2 ((s.1 34 2) + 1)))
  else
    b_Rm_lay_3 C j1 (i3 + (-8)) s
  := (c_blk_eq d_CT T_Rm_lay L_Rm_lay 0 C 400 38 [(0, v_r 34), (1, v_l j1), (3, v_i i3), (4, v_i i4)] [] s).trans rfl
theorem m_Rm_lay (d : Nat) (j1 : Int64) (s : c_S) : c_M (d + 1) 19 [v_r 34, v_l j1] s = b_Rm_lay_0 (c_M d) j1 s := rfl
set_option maxRecDepth 20000 in
theorem e_Rm_isLetter_0 (C : c_C) (i0 : Int32) (s : c_S) : b_Rm_isLetter_0 C i0 s =
  if i0 < 97 then
    if i0 < 65 then
      some (s, 0)
    else
      if (90 : Int32) < i0 then
        some (s, 0)
      else
        some (s, 1)
  else
    if (122 : Int32) < i0 then
      if i0 < 65 then
        some (s, 0)
      else
        if (90 : Int32) < i0 then
          some (s, 0)
        else
          some (s, 1)
    else
      some (s, 1)
  := (c_blk_eq d_CT T_Rm_isLetter L_Rm_isLetter 2 C 400 0 [(0, v_i i0)] [] s).trans rfl
theorem m_Rm_isLetter (d : Nat) (i0 : Int32) (s : c_S) : c_M (d + 1) 20 [v_i i0] s = b_Rm_isLetter_0 (c_M d) i0 s := rfl
set_option maxRecDepth 20000 in
theorem e_Rm_isDigit_0 (C : c_C) (i0 : Int32) (s : c_S) : b_Rm_isDigit_0 C i0 s =
  if i0 < 48 then
    some (s, 0)
  else
    if (57 : Int32) < i0 then
      some (s, 0)
    else
      some (s, 1)
  := (c_blk_eq d_CT T_Rm_isDigit L_Rm_isDigit 2 C 400 0 [(0, v_i i0)] [] s).trans rfl
theorem m_Rm_isDigit (d : Nat) (i0 : Int32) (s : c_S) : c_M (d + 1) 21 [v_i i0] s = b_Rm_isDigit_0 (c_M d) i0 s := rfl
set_option maxRecDepth 20000 in
theorem e_Rm_rank_0 (C : c_C) (i0 : Int32) (s : c_S) : b_Rm_rank_0 C i0 s =
  if i0 < 97 then
    if i0 < 65 then
      some (s, (i0 - 48) + 53)
    else
      some (s, (i0 - 65) + 27)
  else
    some (s, (i0 - 97) + 1)
  := (c_blk_eq d_CT T_Rm_rank L_Rm_rank 1 C 400 0 [(0, v_i i0)] [] s).trans rfl
theorem m_Rm_rank (d : Nat) (i0 : Int32) (s : c_S) : c_M (d + 1) 22 [v_i i0] s = b_Rm_rank_0 (c_M d) i0 s := rfl
set_option maxRecDepth 20000 in
theorem e_Rm_isSignOf_0 (C : c_C) (i0 : Int32) (s : c_S) : b_Rm_isSignOf_0 C i0 s =
  if i0 = 123 then
    b_Rm_isSignOf_66 C  s
  else
    if i0 = 125 then
      b_Rm_isSignOf_66 C  s
    else
      if i0 = 91 then
        b_Rm_isSignOf_66 C  s
      else
        if i0 = 93 then
          b_Rm_isSignOf_66 C  s
        else
          if i0 = 40 then
            b_Rm_isSignOf_66 C  s
          else
            if i0 = 41 then
              b_Rm_isSignOf_66 C  s
            else
              if i0 = 58 then
                b_Rm_isSignOf_66 C  s
              else
                if i0 = 46 then
                  b_Rm_isSignOf_66 C  s
                else
                  if i0 = 61 then
                    b_Rm_isSignOf_66 C  s
                  else
                    b_Rm_isSignOf_54 C i0 s
  := (c_blk_eq d_CT T_Rm_isSignOf L_Rm_isSignOf 2 C 400 0 [(0, v_i i0)] [] s).trans rfl
set_option maxRecDepth 20000 in
theorem e_Rm_isSignOf_66 (C : c_C)  (s : c_S) : b_Rm_isSignOf_66 C  s =
  some (s, 1)
  := (c_blk_eq d_CT T_Rm_isSignOf L_Rm_isSignOf 2 C 400 66 [] [] s).trans rfl
set_option maxRecDepth 20000 in
theorem e_Rm_isSignOf_54 (C : c_C) (i0 : Int32) (s : c_S) : b_Rm_isSignOf_54 C i0 s =
  if i0 = 59 then
    b_Rm_isSignOf_66 C  s
  else
    if i0 = 62 then
      b_Rm_isSignOf_66 C  s
    else
      some (s, 0)
  := (c_blk_eq d_CT T_Rm_isSignOf L_Rm_isSignOf 2 C 400 54 [(0, v_i i0)] [] s).trans rfl
theorem m_Rm_isSignOf (d : Nat) (i0 : Int32) (s : c_S) : c_M (d + 1) 23 [v_i i0] s = b_Rm_isSignOf_0 (c_M d) i0 s := rfl
set_option maxRecDepth 20000 in
theorem e_Rm_cutAll_0 (C : c_C)  (s : c_S) : b_Rm_cutAll_0 C  s =
  b_Rm_cutAll_17 C 0 0 (c_put (c_put s 34 3 (s.1 34 2)) 34 2 0)
  := (c_blk_eq d_CT T_Rm_cutAll L_Rm_cutAll 0 C 400 0 [(0, v_r 34)] [] s).trans rfl
set_option maxRecDepth 20000 in
theorem e_Rm_cutAll_17 (C : c_C) (i1 : Int32) (i2 : Int32) (s : c_S) : b_Rm_cutAll_17 C i1 i2 s =
  if i2 < s.1 34 3 then
    c_rg i2 4000 (
      if s.1 35 i2.toNatClampNeg = 10 then
        b_Rm_cutAll_17 C i1 (i2 + 1) s
      else
        if s.1 35 i2.toNatClampNeg = 32 then
          b_Rm_cutAll_17 C i1 (i2 + 1) s
        else
          c_rg i1 4002 (
            c_rg i1 4002 (
              b_Rm_cutAll_67 C i1 i2 (s.1 35 i2.toNatClampNeg) i2 (c_putL (c_put s 37 i1.toNatClampNeg i2) 39 i1.toNatClampNeg 0))))
  else
    c_rg i1 4002 (
      c_rg i1 4002 (
        some ((c_put (c_put (c_put (c_put s 36 i1.toNatClampNeg 0) 37 i1.toNatClampNeg (s.1 34 3)) 34 8 0) 34 9 0), 0)))
  := (c_blk_eq d_CT T_Rm_cutAll L_Rm_cutAll 0 C 400 17 [(0, v_r 34), (1, v_i i1), (2, v_i i2)] [] s).trans rfl
set_option maxRecDepth 20000 in
theorem e_Rm_cutAll_67 (C : c_C) (i1 : Int32) (i2 : Int32) (i3 : Int32) (i4 : Int32) (s : c_S) : b_Rm_cutAll_67 C i1 i2 i3 i4 s =
  c_bd (C 20 [v_i i3] s) fun s1 x1 =>
  if x1 = 0 then
    c_bd (C 23 [v_i i3] s1) fun s2 x2 =>
    if x2 = 0 then
      c_rg i1 4002 (
        c_rg i1 4002 (
          b_Rm_cutAll_17 C (i1 + 1) (i2 + 1) (c_putL (c_put s2 36 i1.toNatClampNeg 4) 38 i1.toNatClampNeg i3.toInt64)))
    else
      c_rg i1 4002 (
        c_rg i1 4002 (
          b_Rm_cutAll_17 C (i1 + 1) (i2 + 1) (c_putL (c_put s2 36 i1.toNatClampNeg 3) 38 i1.toNatClampNeg i3.toInt64)))
  else
    b_Rm_cutAll_77 C i1 i2 i4 0 s1
  := (c_blk_eq d_CT T_Rm_cutAll L_Rm_cutAll 0 C 400 67 [(0, v_r 34), (1, v_i i1), (2, v_i i2), (3, v_i i3), (4, v_i i4)] [] s).trans rfl
set_option maxRecDepth 20000 in
theorem e_Rm_cutAll_77 (C : c_C) (i1 : Int32) (i2 : Int32) (i4 : Int32) (j5 : Int64) (s : c_S) : b_Rm_cutAll_77 C i1 i2 i4 j5 s =
  if i2 < s.1 34 3 then
    c_rg i2 4000 (
      c_bd (C 20 [v_i (s.1 35 i2.toNatClampNeg)] s) fun s1 x1 =>
      if x1 = 0 then
        c_rg i2 4000 (
          c_bd (C 21 [v_i (s1.1 35 i2.toNatClampNeg)] s1) fun s2 x2 =>
          if x2 = 0 then
            b_Rm_cutAll_155 C i1 i2 i4 j5 (i4 + 9) s2
          else
            b_Rm_cutAll_109 C i1 i2 i4 j5 s2)
      else
        b_Rm_cutAll_109 C i1 i2 i4 j5 s1)
  else
    b_Rm_cutAll_155 C i1 i2 i4 j5 (i4 + 9) s
  := (c_blk_eq d_CT T_Rm_cutAll L_Rm_cutAll 0 C 400 77 [(0, v_r 34), (1, v_i i1), (2, v_i i2), (4, v_i i4), (5, v_l j5)] [] s).trans rfl
set_option maxRecDepth 20000 in
theorem e_Rm_cutAll_155 (C : c_C) (i1 : Int32) (i2 : Int32) (i4 : Int32) (j5 : Int64) (i7 : Int32) (s : c_S) : b_Rm_cutAll_155 C i1 i2 i4 j5 i7 s =
  if i7 < i2 then
    if i7 < i4 + 12 then
      c_rg i1 4002 (
        c_rg i7 4000 (
          c_bd (C 22 [v_i (s.1 35 i7.toNatClampNeg)] s) fun s1 x1 =>
          c_rg i1 4002 (
            b_Rm_cutAll_155 C i1 i2 i4 j5 (i7 + 1) (c_putL s1 39 i1.toNatClampNeg (((64 : Int64) * (s.2 39 i1.toNatClampNeg)) + x1.toInt64)))))
    else
      b_Rm_cutAll_205 C i1 i2 i4 j5 s
  else
    b_Rm_cutAll_205 C i1 i2 i4 j5 s
  := (c_blk_eq d_CT T_Rm_cutAll L_Rm_cutAll 0 C 400 155 [(0, v_r 34), (1, v_i i1), (2, v_i i2), (4, v_i i4), (5, v_l j5), (7, v_i i7)] [] s).trans rfl
set_option maxRecDepth 20000 in
theorem e_Rm_cutAll_109 (C : c_C) (i1 : Int32) (i2 : Int32) (i4 : Int32) (j5 : Int64) (s : c_S) : b_Rm_cutAll_109 C i1 i2 i4 j5 s =
  if i2 - i4 < 9 then
    c_rg i2 4000 (
      c_bd (C 22 [v_i (s.1 35 i2.toNatClampNeg)] s) fun s1 x1 =>
      b_Rm_cutAll_77 C i1 (i2 + 1) i4 (((64 : Int64) * j5) + x1.toInt64) s1)
  else
    b_Rm_cutAll_77 C i1 (i2 + 1) i4 j5 s
  := (c_blk_eq d_CT T_Rm_cutAll L_Rm_cutAll 0 C 400 109 [(0, v_r 34), (1, v_i i1), (2, v_i i2), (4, v_i i4), (5, v_l j5)] [] s).trans rfl
set_option maxRecDepth 20000 in
theorem e_Rm_cutAll_205 (C : c_C) (i1 : Int32) (i2 : Int32) (i4 : Int32) (j5 : Int64) (s : c_S) : b_Rm_cutAll_205 C i1 i2 i4 j5 s =
  c_rg i1 4002 (
    if (12 : Int32) < i2 - i4 then
      c_rg i1 4002 (
        b_Rm_cutAll_17 C (i1 + 1) i2 (c_put (c_putL s 38 i1.toNatClampNeg j5) 36 i1.toNatClampNeg 4))
    else
      c_rg i1 4002 (
        b_Rm_cutAll_17 C (i1 + 1) i2 (c_put (c_putL s 38 i1.toNatClampNeg j5) 36 i1.toNatClampNeg 1)))
  := (c_blk_eq d_CT T_Rm_cutAll L_Rm_cutAll 0 C 400 205 [(0, v_r 34), (1, v_i i1), (2, v_i i2), (4, v_i i4), (5, v_l j5)] [] s).trans rfl
theorem m_Rm_cutAll (d : Nat)  (s : c_S) : c_M (d + 1) 24 [v_r 34] s = b_Rm_cutAll_0 (c_M d)  s := rfl
set_option maxRecDepth 20000 in
theorem e_Rm_wrong_0 (C : c_C) (i1 : Int32) (i2 : Int32) (s : c_S) : b_Rm_wrong_0 C i1 i2 s =
  if s.1 34 9 = 0 then
    c_rg i2 4002 (
      some ((c_put s 34 9 (i1 + ((16 : Int32) * (s.1 37 i2.toNatClampNeg)))), 0))
  else
    some (s, 0)
  := (c_blk_eq d_CT T_Rm_wrong L_Rm_wrong 0 C 400 0 [(0, v_r 34), (1, v_i i1), (2, v_i i2)] [] s).trans rfl
theorem m_Rm_wrong (d : Nat) (i1 : Int32) (i2 : Int32) (s : c_S) : c_M (d + 1) 25 [v_r 34, v_i i1, v_i i2] s = b_Rm_wrong_0 (c_M d) i1 i2 s := rfl
set_option maxRecDepth 20000 in
theorem e_Rm_isSign_0 (C : c_C) (i1 : Int32) (s : c_S) : b_Rm_isSign_0 C i1 s =
  if s.1 34 9 = 0 then
    c_rg (s.1 34 8) 4002 (
      if s.1 36 ((s.1 34 8).toNatClampNeg) = 3 then
        c_rg (s.1 34 8) 4002 (
          if lg_cmp (s.2 38 ((s.1 34 8).toNatClampNeg)) i1.toInt64 = 0 then
            some (s, 1)
          else
            some (s, 0))
      else
        some (s, 0))
  else
    some (s, 0)
  := (c_blk_eq d_CT T_Rm_isSign L_Rm_isSign 2 C 400 0 [(0, v_r 34), (1, v_i i1)] [] s).trans rfl
theorem m_Rm_isSign (d : Nat) (i1 : Int32) (s : c_S) : c_M (d + 1) 26 [v_r 34, v_i i1] s = b_Rm_isSign_0 (c_M d) i1 s := rfl
set_option maxRecDepth 20000 in
theorem e_Rm_isType_0 (C : c_C)  (s : c_S) : b_Rm_isType_0 C  s =
  if s.1 34 9 = 0 then
    c_rg (s.1 34 8) 4002 (
      if s.1 36 ((s.1 34 8).toNatClampNeg) = 1 then
        c_rg (s.1 34 8) 4002 (
          if lg_cmp (s.2 38 ((s.1 34 8).toNatClampNeg)) 5346309 = 0 then
            c_rg (s.1 34 8) 4002 (
              if lg_cmp (s.2 39 ((s.1 34 8).toNatClampNeg)) 0 = 0 then
                some (s, 1)
              else
                some (s, 0))
          else
            some (s, 0))
      else
        some (s, 0))
  else
    some (s, 0)
  := (c_blk_eq d_CT T_Rm_isType L_Rm_isType 2 C 400 0 [(0, v_r 34)] [] s).trans rfl
theorem m_Rm_isType (d : Nat)  (s : c_S) : c_M (d + 1) 27 [v_r 34] s = b_Rm_isType_0 (c_M d)  s := rfl
set_option maxRecDepth 20000 in
theorem e_Rm_isName_0 (C : c_C)  (s : c_S) : b_Rm_isName_0 C  s =
  if s.1 34 9 = 0 then
    c_rg (s.1 34 8) 4002 (
      if s.1 36 ((s.1 34 8).toNatClampNeg) = 1 then
        c_rg (s.1 34 8) 4002 (
          if lg_cmp (s.2 38 ((s.1 34 8).toNatClampNeg)) 5346309 = 0 then
            c_rg (s.1 34 8) 4002 (
              if lg_cmp (s.2 39 ((s.1 34 8).toNatClampNeg)) 0 = 0 then
                some (s, 0)
              else
                some (s, 1))
          else
            some (s, 1))
      else
        some (s, 0))
  else
    some (s, 0)
  := (c_blk_eq d_CT T_Rm_isName L_Rm_isName 2 C 400 0 [(0, v_r 34)] [] s).trans rfl
theorem m_Rm_isName (d : Nat)  (s : c_S) : c_M (d + 1) 28 [v_r 34] s = b_Rm_isName_0 (c_M d)  s := rfl
set_option maxRecDepth 20000 in
theorem e_Rm_takeSign_0 (C : c_C) (i1 : Int32) (s : c_S) : b_Rm_takeSign_0 C i1 s =
  c_bd (C 26 [v_r 34, v_i i1] s) fun s1 x1 =>
  if x1 = 0 then
    c_bd (C 25 [v_r 34, v_i 1, v_i (s1.1 34 8)] s1) fun s2 _ =>
    some (s2, 0)
  else
    some ((c_put s1 34 8 ((s1.1 34 8) + 1)), 0)
  := (c_blk_eq d_CT T_Rm_takeSign L_Rm_takeSign 0 C 400 0 [(0, v_r 34), (1, v_i i1)] [] s).trans rfl
theorem m_Rm_takeSign (d : Nat) (i1 : Int32) (s : c_S) : c_M (d + 1) 29 [v_r 34, v_i i1] s = b_Rm_takeSign_0 (c_M d) i1 s := rfl
set_option maxRecDepth 20000 in
theorem e_Rm_node_0 (C : c_C) (i1 : Int32) (i2 : Int32) (i3 : Int32) (i4 : Int32) (i5 : Int32) (s : c_S) : b_Rm_node_0 C i1 i2 i3 i4 i5 s =
  c_rg (s.1 34 16) 136000 (
    c_rg (s.1 34 16) 136000 (
      c_rg (s.1 34 16) 136000 (
        c_rg (s.1 34 16) 136000 (
          c_rg (s.1 34 16) 136000 (
            c_rg (s.1 34 16) 136000 (
              b_Rm_node_66 C (s.1 34 16) (c_put (c_put (c_put (c_put (c_put (c_put (c_put s 40 ((s.1 34 16).toNatClampNeg) i1) 41 ((s.1 34 16).toNatClampNeg) i2) 42 ((s.1 34 16).toNatClampNeg) i3) 43 ((s.1 34 16).toNatClampNeg) i4) 44 ((s.1 34 16).toNatClampNeg) i5) 45 ((s.1 34 16).toNatClampNeg) ((-1))) 34 16 ((s.1 34 16) + 1))))))))
  := (c_blk_eq d_CT T_Rm_node L_Rm_node 1 C 400 0 [(0, v_r 34), (1, v_i i1), (2, v_i i2), (3, v_i i3), (4, v_i i4), (5, v_i i5)] [] s).trans rfl
set_option maxRecDepth 20000 in
theorem e_Rm_node_66 (C : c_C) (i6 : Int32) (s : c_S) : b_Rm_node_66 C i6 s =
  some (s, i6)
  := (c_blk_eq d_CT T_Rm_node L_Rm_node 1 C 400 66 [(6, v_i i6)] [] s).trans rfl
theorem m_Rm_node (d : Nat) (i1 : Int32) (i2 : Int32) (i3 : Int32) (i4 : Int32) (i5 : Int32) (s : c_S) : c_M (d + 1) 30 [v_r 34, v_i i1, v_i i2, v_i i3, v_i i4, v_i i5] s = b_Rm_node_0 (c_M d) i1 i2 i3 i4 i5 s := rfl
set_option maxRecDepth 20000 in
theorem e_Rm_typeNode_0 (C : c_C) (i1 : Int32) (i2 : Int32) (i3 : Int32) (s : c_S) : b_Rm_typeNode_0 C i1 i2 i3 s =
  c_rg (s.1 34 17) 136000 (
    c_rg (s.1 34 17) 136000 (
      c_rg (s.1 34 17) 136000 (
        some ((c_put (c_put (c_put (c_put s 40 ((s.1 34 17).toNatClampNeg) i1) 41 ((s.1 34 17).toNatClampNeg) i2) 42 ((s.1 34 17).toNatClampNeg) i3) 34 17 ((s.1 34 17) + 1)), s.1 34 17))))
  := (c_blk_eq d_CT T_Rm_typeNode L_Rm_typeNode 1 C 400 0 [(0, v_r 34), (1, v_i i1), (2, v_i i2), (3, v_i i3)] [] s).trans rfl
theorem m_Rm_typeNode (d : Nat) (i1 : Int32) (i2 : Int32) (i3 : Int32) (s : c_S) : c_M (d + 1) 31 [v_r 34, v_i i1, v_i i2, v_i i3] s = b_Rm_typeNode_0 (c_M d) i1 i2 i3 s := rfl
set_option maxRecDepth 20000 in
theorem e_Rm_within_0 (C : c_C)  (s : c_S) : b_Rm_within_0 C  s =
  if s.1 34 9 = 0 then
    if s.1 34 18 = 40 then
      c_bd (C 25 [v_r 34, v_i 5, v_i (s.1 34 8)] s) fun s1 _ =>
      some ((c_put s1 34 18 ((s1.1 34 18) + 1)), 0)
    else
      some ((c_put s 34 18 ((s.1 34 18) + 1)), 0)
  else
    some ((c_put s 34 18 ((s.1 34 18) + 1)), 0)
  := (c_blk_eq d_CT T_Rm_within L_Rm_within 0 C 400 0 [(0, v_r 34)] [] s).trans rfl
theorem m_Rm_within (d : Nat)  (s : c_S) : c_M (d + 1) 32 [v_r 34] s = b_Rm_within_0 (c_M d)  s := rfl
set_option maxRecDepth 20000 in
theorem e_Rm_counts_0 (C : c_C)  (s : c_S) : b_Rm_counts_0 C  s =
  if s.1 34 9 = 0 then
    if s.1 34 19 = 600 then
      c_bd (C 25 [v_r 34, v_i 5, v_i (s.1 34 8)] s) fun s1 _ =>
      some ((c_put s1 34 19 ((s1.1 34 19) + 1)), 0)
    else
      some ((c_put s 34 19 ((s.1 34 19) + 1)), 0)
  else
    some ((c_put s 34 19 ((s.1 34 19) + 1)), 0)
  := (c_blk_eq d_CT T_Rm_counts L_Rm_counts 0 C 400 0 [(0, v_r 34)] [] s).trans rfl
theorem m_Rm_counts (d : Nat)  (s : c_S) : c_M (d + 1) 33 [v_r 34] s = b_Rm_counts_0 (c_M d)  s := rfl
set_option maxRecDepth 20000 in
theorem e_Rm_readWhole_0 (C : c_C)  (s : c_S) : b_Rm_readWhole_0 C  s =
  c_bd (C 36 [v_r 34] (c_put (c_put s 34 18 0) 34 19 0)) fun s1 x1 =>
  some (s1, x1)
  := (c_blk_eq d_CT T_Rm_readWhole L_Rm_readWhole 1 C 400 0 [(0, v_r 34)] [] s).trans rfl
theorem m_Rm_readWhole (d : Nat)  (s : c_S) : c_M (d + 1) 34 [v_r 34] s = b_Rm_readWhole_0 (c_M d)  s := rfl
set_option maxRecDepth 20000 in
theorem e_Rm_isP_0 (C : c_C)  (s : c_S) : b_Rm_isP_0 C  s =
  if s.1 34 9 = 0 then
    c_rg (s.1 34 8) 4002 (
      if s.1 36 ((s.1 34 8).toNatClampNeg) = 1 then
        some (s, 1)
      else
        c_bd (C 26 [v_r 34, v_i 40] s) fun s1 x1 =>
        if x1 = 0 then
          some (s1, 0)
        else
          some (s1, 1))
  else
    some (s, 0)
  := (c_blk_eq d_CT T_Rm_isP L_Rm_isP 2 C 400 0 [(0, v_r 34)] [] s).trans rfl
theorem m_Rm_isP (d : Nat)  (s : c_S) : c_M (d + 1) 35 [v_r 34] s = b_Rm_isP_0 (c_M d)  s := rfl
set_option maxRecDepth 20000 in
theorem e_Rm_readE_0 (C : c_C)  (s : c_S) : b_Rm_readE_0 C  s =
  if (0 : Int32) < s.1 34 9 then
    some (s, (-1))
  else
    c_bd (C 35 [v_r 34] s) fun s1 x1 =>
    if x1 = 0 then
      c_bd (C 26 [v_r 34, v_i 123] s1) fun s2 x2 =>
      if x2 = 0 then
        c_bd (C 26 [v_r 34, v_i 91] s2) fun s3 x3 =>
        if x3 = 0 then
          c_bd (C 25 [v_r 34, v_i 1, v_i (s3.1 34 8)] s3) fun s4 _ =>
          some (s4, (-1))
        else
          b_Rm_readE_45 C  s3
      else
        b_Rm_readE_45 C  s2
    else
      b_Rm_readE_45 C  s1
  := (c_blk_eq d_CT T_Rm_readE L_Rm_readE 1 C 400 0 [(0, v_r 34)] [] s).trans rfl
set_option maxRecDepth 20000 in
theorem e_Rm_readE_45 (C : c_C)  (s : c_S) : b_Rm_readE_45 C  s =
  c_bd (C 32 [v_r 34] s) fun s1 _ =>
  c_bd (C 26 [v_r 34, v_i 123] s1) fun s2 x2 =>
  if x2 = 0 then
    c_bd (C 26 [v_r 34, v_i 91] s2) fun s3 x3 =>
    if x3 = 0 then
      c_bd (C 38 [v_r 34] s3) fun s4 x4 =>
      b_Rm_readE_96 C x4 (c_put s4 34 18 ((s4.1 34 18) - 1))
    else
      b_Rm_readE_67 C  s3
  else
    b_Rm_readE_67 C  s2
  := (c_blk_eq d_CT T_Rm_readE L_Rm_readE 1 C 400 45 [(0, v_r 34)] [] s).trans rfl
set_option maxRecDepth 20000 in
theorem e_Rm_readE_96 (C : c_C) (i1 : Int32) (s : c_S) : b_Rm_readE_96 C i1 s =
  some (s, i1)
  := (c_blk_eq d_CT T_Rm_readE L_Rm_readE 1 C 400 96 [(1, v_i i1)] [] s).trans rfl
set_option maxRecDepth 20000 in
theorem e_Rm_readE_67 (C : c_C)  (s : c_S) : b_Rm_readE_67 C  s =
  c_bd (C 26 [v_r 34, v_i 123] s) fun s1 x1 =>
  c_bd (C 37 [v_r 34, v_i x1] s1) fun s2 x2 =>
  b_Rm_readE_96 C x2 (c_put s2 34 18 ((s2.1 34 18) - 1))
  := (c_blk_eq d_CT T_Rm_readE L_Rm_readE 1 C 400 67 [(0, v_r 34)] [] s).trans rfl
theorem m_Rm_readE (d : Nat)  (s : c_S) : c_M (d + 1) 36 [v_r 34] s = b_Rm_readE_0 (c_M d)  s := rfl
set_option maxRecDepth 20000 in
theorem e_Rm_readBinder_0 (C : c_C) (i1 : Int32) (s : c_S) : b_Rm_readBinder_0 C i1 s =
  c_bd (C 33 [v_r 34] s) fun s1 _ =>
  if (0 : Int32) < s1.1 34 9 then
    some (s1, (-1))
  else
    c_bd (C 28 [v_r 34] (c_put s1 34 8 ((s1.1 34 8) + 1))) fun s2 x2 =>
    if x2 = 0 then
      b_Rm_readBinder_40 C i1 (s.1 34 8) ((s1.1 34 8) + 1) s2
    else
      b_Rm_readBinder_49 C i1 (s.1 34 8) ((s1.1 34 8) + 1) s2
  := (c_blk_eq d_CT T_Rm_readBinder L_Rm_readBinder 1 C 400 0 [(0, v_r 34), (1, v_i i1)] [] s).trans rfl
set_option maxRecDepth 20000 in
theorem e_Rm_readBinder_40 (C : c_C) (i1 : Int32) (i2 : Int32) (i3 : Int32) (s : c_S) : b_Rm_readBinder_40 C i1 i2 i3 s =
  c_bd (C 25 [v_r 34, v_i 1, v_i (s.1 34 8)] s) fun s1 _ =>
  b_Rm_readBinder_49 C i1 i2 i3 s1
  := (c_blk_eq d_CT T_Rm_readBinder L_Rm_readBinder 1 C 400 40 [(0, v_r 34), (1, v_i i1), (2, v_i i2), (3, v_i i3)] [] s).trans rfl
set_option maxRecDepth 20000 in
theorem e_Rm_readBinder_49 (C : c_C) (i1 : Int32) (i2 : Int32) (i3 : Int32) (s : c_S) : b_Rm_readBinder_49 C i1 i2 i3 s =
  c_bd (C 29 [v_r 34, v_i 58] (c_put s 34 8 ((s.1 34 8) + 1))) fun s1 _ =>
  c_bd (C 36 [v_r 34] s1) fun s2 x2 =>
  if i1 = 0 then
    b_Rm_readBinder_83 C i1 i2 i3 x2 93 s2
  else
    b_Rm_readBinder_83 C i1 i2 i3 x2 125 s2
  := (c_blk_eq d_CT T_Rm_readBinder L_Rm_readBinder 1 C 400 49 [(0, v_r 34), (1, v_i i1), (2, v_i i2), (3, v_i i3)] [] s).trans rfl
set_option maxRecDepth 20000 in
theorem e_Rm_readBinder_83 (C : c_C) (i1 : Int32) (i2 : Int32) (i3 : Int32) (i4 : Int32) (t0 : Int32) (s : c_S) : b_Rm_readBinder_83 C i1 i2 i3 i4 t0 s =
  c_bd (C 29 [v_r 34, v_i t0] s) fun s1 _ =>
  c_bd (C 36 [v_r 34] s1) fun s2 x2 =>
  if (0 : Int32) < s2.1 34 9 then
    some (s2, (-1))
  else
    if i1 = 0 then
      b_Rm_readBinder_111 C i2 i3 i4 x2 4 s2
    else
      b_Rm_readBinder_111 C i2 i3 i4 x2 5 s2
  := (c_blk_eq d_CT T_Rm_readBinder L_Rm_readBinder 1 C 400 83 [(0, v_r 34), (1, v_i i1), (2, v_i i2), (3, v_i i3), (4, v_i i4)] [v_i t0, v_r 34] s).trans rfl
set_option maxRecDepth 20000 in
theorem e_Rm_readBinder_111 (C : c_C) (i2 : Int32) (i3 : Int32) (i4 : Int32) (i5 : Int32) (t0 : Int32) (s : c_S) : b_Rm_readBinder_111 C i2 i3 i4 i5 t0 s =
  c_bd (C 30 [v_r 34, v_i t0, v_i i4, v_i i5, v_i i2, v_i i2] s) fun s1 x1 =>
  c_rg x1 136000 (
    some ((c_put s1 46 x1.toNatClampNeg i3), x1))
  := (c_blk_eq d_CT T_Rm_readBinder L_Rm_readBinder 1 C 400 111 [(0, v_r 34), (2, v_i i2), (3, v_i i3), (4, v_i i4), (5, v_i i5)] [v_i t0, v_r 34] s).trans rfl
theorem m_Rm_readBinder (d : Nat) (i1 : Int32) (s : c_S) : c_M (d + 1) 37 [v_r 34, v_i i1] s = b_Rm_readBinder_0 (c_M d) i1 s := rfl
set_option maxRecDepth 20000 in
theorem e_Rm_readA_0 (C : c_C)  (s : c_S) : b_Rm_readA_0 C  s =
  c_bd (C 39 [v_r 34] s) fun s1 x1 =>
  b_Rm_readA_10 C (s.1 34 8) x1 s1
  := (c_blk_eq d_CT T_Rm_readA L_Rm_readA 1 C 400 0 [(0, v_r 34)] [] s).trans rfl
set_option maxRecDepth 20000 in
theorem e_Rm_readA_10 (C : c_C) (i1 : Int32) (i2 : Int32) (s : c_S) : b_Rm_readA_10 C i1 i2 s =
  c_bd (C 35 [v_r 34] s) fun s1 x1 =>
  if x1 = 0 then
    c_bd (C 26 [v_r 34, v_i 62] s1) fun s2 x2 =>
    if x2 = 0 then
      some (s2, i2)
    else
      c_bd (C 33 [v_r 34] s2) fun s3 _ =>
      if (0 : Int32) < s3.1 34 9 then
        some (s3, (-1))
      else
        b_Rm_readA_87 C i1 i2 (s2.1 34 8) (c_put s3 34 8 ((s3.1 34 8) + 1))
  else
    c_bd (C 39 [v_r 34] s1) fun s4 x4 =>
    if s4.1 34 9 = 0 then
      c_bd (C 30 [v_r 34, v_i 6, v_i i2, v_i x4, v_i i1, v_i (s1.1 34 8)] s4) fun s5 x5 =>
      b_Rm_readA_10 C i1 x5 s5
    else
      b_Rm_readA_10 C i1 i2 s4
  := (c_blk_eq d_CT T_Rm_readA L_Rm_readA 1 C 400 10 [(0, v_r 34), (1, v_i i1), (2, v_i i2)] [] s).trans rfl
set_option maxRecDepth 20000 in
theorem e_Rm_readA_87 (C : c_C) (i1 : Int32) (i2 : Int32) (i3 : Int32) (s : c_S) : b_Rm_readA_87 C i1 i2 i3 s =
  c_bd (C 36 [v_r 34] s) fun s1 x1 =>
  if (0 : Int32) < s1.1 34 9 then
    some (s1, (-1))
  else
    c_bd (C 30 [v_r 34, v_i 5, v_i i2, v_i x1, v_i i1, v_i i3] s1) fun s2 x2 =>
    c_rg x2 136000 (
      some ((c_put s2 46 x2.toNatClampNeg ((-1))), x2))
  := (c_blk_eq d_CT T_Rm_readA L_Rm_readA 1 C 400 87 [(0, v_r 34), (1, v_i i1), (2, v_i i2), (3, v_i i3)] [] s).trans rfl
theorem m_Rm_readA (d : Nat)  (s : c_S) : c_M (d + 1) 38 [v_r 34] s = b_Rm_readA_0 (c_M d)  s := rfl
set_option maxRecDepth 20000 in
theorem e_Rm_readP_0 (C : c_C)  (s : c_S) : b_Rm_readP_0 C  s =
  c_bd (C 32 [v_r 34] s) fun s1 _ =>
  c_bd (C 33 [v_r 34] s1) fun s2 _ =>
  if (0 : Int32) < s2.1 34 9 then
    some (s2, (-1))
  else
    c_bd (C 26 [v_r 34, v_i 40] s2) fun s3 x3 =>
    if x3 = 0 then
      c_bd (C 27 [v_r 34] s3) fun s4 x4 =>
      if x4 = 0 then
        b_Rm_readP_82 C 0 s4
      else
        b_Rm_readP_82 C 1 s4
    else
      c_bd (C 36 [v_r 34] (c_put s3 34 8 ((s3.1 34 8) + 1))) fun s5 x5 =>
      b_Rm_readP_46 C x5 (s3.1 34 8) s5
  := (c_blk_eq d_CT T_Rm_readP L_Rm_readP 1 C 400 0 [(0, v_r 34)] [] s).trans rfl
set_option maxRecDepth 20000 in
theorem e_Rm_readP_82 (C : c_C) (t0 : Int32) (s : c_S) : b_Rm_readP_82 C t0 s =
  c_bd (C 30 [v_r 34, v_i t0, v_i ((-1)), v_i ((-1)), v_i (s.1 34 8), v_i (s.1 34 8)] s) fun s1 x1 =>
  some ((c_put (c_put s1 34 8 ((s1.1 34 8) + 1)) 34 18 ((s1.1 34 18) - 1)), x1)
  := (c_blk_eq d_CT T_Rm_readP L_Rm_readP 1 C 400 82 [(0, v_r 34)] [v_i t0, v_r 34] s).trans rfl
set_option maxRecDepth 20000 in
theorem e_Rm_readP_46 (C : c_C) (i1 : Int32) (i2 : Int32) (s : c_S) : b_Rm_readP_46 C i1 i2 s =
  c_bd (C 29 [v_r 34, v_i 41] s) fun s1 _ =>
  if s1.1 34 9 = 0 then
    c_rg i1 136000 (
      some ((c_put (c_put s1 45 i1.toNatClampNeg i2) 34 18 ((s1.1 34 18) - 1)), i1))
  else
    some ((c_put s1 34 18 ((s1.1 34 18) - 1)), i1)
  := (c_blk_eq d_CT T_Rm_readP L_Rm_readP 1 C 400 46 [(0, v_r 34), (1, v_i i1), (2, v_i i2)] [] s).trans rfl
theorem m_Rm_readP (d : Nat)  (s : c_S) : c_M (d + 1) 39 [v_r 34] s = b_Rm_readP_0 (c_M d)  s := rfl
set_option maxRecDepth 20000 in
theorem e_Rm_constantOf_0 (C : c_C) (i1 : Int32) (s : c_S) : b_Rm_constantOf_0 C i1 s =
  b_Rm_constantOf_4 C i1 ((-1)) 0 s
  := (c_blk_eq d_CT T_Rm_constantOf L_Rm_constantOf 1 C 400 0 [(0, v_r 34), (1, v_i i1)] [] s).trans rfl
set_option maxRecDepth 20000 in
theorem e_Rm_constantOf_4 (C : c_C) (i1 : Int32) (i2 : Int32) (i3 : Int32) (s : c_S) : b_Rm_constantOf_4 C i1 i2 i3 s =
  if i3 < s.1 34 21 then
    c_rg i3 101 (
      c_rg i1 4002 (
        if lg_cmp (s.2 47 i3.toNatClampNeg) (s.2 38 i1.toNatClampNeg) = 0 then
          c_rg i3 101 (
            c_rg i1 4002 (
              if lg_cmp (s.2 48 i3.toNatClampNeg) (s.2 39 i1.toNatClampNeg) = 0 then
                b_Rm_constantOf_4 C i1 i3 (i3 + 1) s
              else
                b_Rm_constantOf_4 C i1 i2 (i3 + 1) s))
        else
          b_Rm_constantOf_4 C i1 i2 (i3 + 1) s))
  else
    some (s, i2)
  := (c_blk_eq d_CT T_Rm_constantOf L_Rm_constantOf 1 C 400 4 [(0, v_r 34), (1, v_i i1), (2, v_i i2), (3, v_i i3)] [] s).trans rfl
theorem m_Rm_constantOf (d : Nat) (i1 : Int32) (s : c_S) : c_M (d + 1) 40 [v_r 34, v_i i1] s = b_Rm_constantOf_0 (c_M d) i1 s := rfl
set_option maxRecDepth 20000 in
theorem e_Rm_closure_0 (C : c_C) (i1 : Int32) (i2 : Int32) (s : c_S) : b_Rm_closure_0 C i1 i2 s =
  c_rg (s.1 34 30) 400000 (
    c_rg (s.1 34 30) 400000 (
      some ((c_put (c_put (c_put s 53 ((s.1 34 30).toNatClampNeg) i1) 54 ((s.1 34 30).toNatClampNeg) i2) 34 30 ((s.1 34 30) + 1)), ((s.1 34 30) + 1) - 1)))
  := (c_blk_eq d_CT T_Rm_closure L_Rm_closure 1 C 400 0 [(0, v_r 34), (1, v_i i1), (2, v_i i2)] [] s).trans rfl
theorem m_Rm_closure (d : Nat) (i1 : Int32) (i2 : Int32) (s : c_S) : c_M (d + 1) 41 [v_r 34, v_i i1, v_i i2] s = b_Rm_closure_0 (c_M d) i1 i2 s := rfl
set_option maxRecDepth 20000 in
theorem e_Rm_list_0 (C : c_C) (i1 : Int32) (i2 : Int32) (s : c_S) : b_Rm_list_0 C i1 i2 s =
  c_rg (s.1 34 33) 400000 (
    c_rg (s.1 34 33) 400000 (
      some ((c_put (c_put (c_put s 55 ((s.1 34 33).toNatClampNeg) i1) 56 ((s.1 34 33).toNatClampNeg) i2) 34 33 ((s.1 34 33) + 1)), ((s.1 34 33) + 1) - 1)))
  := (c_blk_eq d_CT T_Rm_list L_Rm_list 1 C 400 0 [(0, v_r 34), (1, v_i i1), (2, v_i i2)] [] s).trans rfl
theorem m_Rm_list (d : Nat) (i1 : Int32) (i2 : Int32) (s : c_S) : c_M (d + 1) 42 [v_r 34, v_i i1, v_i i2] s = b_Rm_list_0 (c_M d) i1 i2 s := rfl
set_option maxRecDepth 20000 in
theorem e_Rm_behind_0 (C : c_C) (i1 : Int32) (i2 : Int32) (s : c_S) : b_Rm_behind_0 C i1 i2 s =
  c_rg (s.1 34 36) 400000 (
    c_rg (s.1 34 36) 400000 (
      some ((c_put (c_put (c_put s 57 ((s.1 34 36).toNatClampNeg) i1) 58 ((s.1 34 36).toNatClampNeg) i2) 34 36 ((s.1 34 36) + 1)), ((s.1 34 36) + 1) - 1)))
  := (c_blk_eq d_CT T_Rm_behind L_Rm_behind 1 C 400 0 [(0, v_r 34), (1, v_i i1), (2, v_i i2)] [] s).trans rfl
theorem m_Rm_behind (d : Nat) (i1 : Int32) (i2 : Int32) (s : c_S) : c_M (d + 1) 43 [v_r 34, v_i i1, v_i i2] s = b_Rm_behind_0 (c_M d) i1 i2 s := rfl
set_option maxRecDepth 20000 in
theorem e_Rm_newVar_0 (C : c_C) (i1 : Int32) (i2 : Int32) (i3 : Int32) (s : c_S) : b_Rm_newVar_0 C i1 i2 i3 s =
  c_rg (s.1 34 40) 24000 (
    c_rg (s.1 34 40) 24000 (
      c_rg (s.1 34 40) 24000 (
        c_bd (C 41 [v_r 34, v_i (-((s.1 34 40) + 1)), v_i ((-1))] (c_put (c_put (c_put (c_put s 59 ((s.1 34 40).toNatClampNeg) i1) 60 ((s.1 34 40).toNatClampNeg) i2) 61 ((s.1 34 40).toNatClampNeg) i3) 34 40 ((s.1 34 40) + 1))) fun s1 x1 =>
        some (s1, x1))))
  := (c_blk_eq d_CT T_Rm_newVar L_Rm_newVar 1 C 400 0 [(0, v_r 34), (1, v_i i1), (2, v_i i2), (3, v_i i3)] [] s).trans rfl
theorem m_Rm_newVar (d : Nat) (i1 : Int32) (i2 : Int32) (i3 : Int32) (s : c_S) : c_M (d + 1) 44 [v_r 34, v_i i1, v_i i2, v_i i3] s = b_Rm_newVar_0 (c_M d) i1 i2 i3 s := rfl
set_option maxRecDepth 20000 in
theorem e_Rm_step_0 (C : c_C)  (s : c_S) : b_Rm_step_0 C  s =
  if s.1 34 42 = 20000 then
    some (s, 0)
  else
    if s.1 34 41 = 60000 then
      some (s, 0)
    else
      some ((c_put (c_put s 34 42 ((s.1 34 42) + 1)) 34 41 ((s.1 34 41) + 1)), 1)
  := (c_blk_eq d_CT T_Rm_step L_Rm_step 2 C 400 0 [(0, v_r 34)] [] s).trans rfl
theorem m_Rm_step (d : Nat)  (s : c_S) : c_M (d + 1) 45 [v_r 34] s = b_Rm_step_0 (c_M d)  s := rfl
set_option maxRecDepth 20000 in
theorem e_Rm_stepAt_0 (C : c_C) (i1 : Int32) (s : c_S) : b_Rm_stepAt_0 C i1 s =
  if s.1 34 9 = 0 then
    c_bd (C 45 [v_r 34] s) fun s1 x1 =>
    if x1 = 0 then
      c_bd (C 25 [v_r 34, v_i 9, v_i i1] s1) fun s2 _ =>
      some (s2, 0)
    else
      some (s1, 0)
  else
    some (s, 0)
  := (c_blk_eq d_CT T_Rm_stepAt L_Rm_stepAt 0 C 400 0 [(0, v_r 34), (1, v_i i1)] [] s).trans rfl
theorem m_Rm_stepAt (d : Nat) (i1 : Int32) (s : c_S) : c_M (d + 1) 46 [v_r 34, v_i i1] s = b_Rm_stepAt_0 (c_M d) i1 s := rfl
set_option maxRecDepth 20000 in
theorem e_Rm_begins_0 (C : c_C)  (s : c_S) : b_Rm_begins_0 C  s =
  c_bd (C 24 [v_r 34] (c_put (c_put (c_put (c_put (c_put (c_put (c_put (c_put s 34 42 0) 34 30 0) 34 33 0) 34 36 0) 34 40 0) 34 54 ((-1))) 34 55 0) 34 17 120000)) fun s1 _ =>
  some (s1, 0)
  := (c_blk_eq d_CT T_Rm_begins L_Rm_begins 0 C 400 0 [(0, v_r 34)] [] s).trans rfl
theorem m_Rm_begins (d : Nat)  (s : c_S) : c_M (d + 1) 47 [v_r 34] s = b_Rm_begins_0 (c_M d)  s := rfl
set_option maxRecDepth 200000 in
theorem e_Rm_shows_0 (C : c_C) (i1 : Int32) (i2 : Int32) (s : c_S) : b_Rm_shows_0 C i1 i2 s =
  b_Rm_shows_8 C i1 i2 0 s
  := (c_blkS_eq [8, 19, 43, 54, 72, 83, 118, 123, 126, 152, 162] d_CT T_Rm_shows L_Rm_shows 2 C 400 0 [(0, v_r 34), (1, v_i i1), (2, v_i i2)] [] s).trans rfl
set_option maxRecDepth 200000 in
theorem e_Rm_shows_8 (C : c_C) (i3 : Int32) (i4 : Int32) (i5 : Int32) (s : c_S) : b_Rm_shows_8 C i3 i4 i5 s =
  c_rg i3 136000 (
    if s.1 40 i3.toNatClampNeg = 7 then
      b_Rm_shows_19 C i3 i4 i5 s
    else
      b_Rm_shows_43 C i3 i4 i5 s)
  := (c_blkS_eq [8, 19, 43, 54, 72, 83, 118, 123, 126, 152, 162] d_CT T_Rm_shows L_Rm_shows 2 C 400 8 [(0, v_r 34), (3, v_i i3), (4, v_i i4), (5, v_i i5)] [] s).trans rfl
set_option maxRecDepth 200000 in
theorem e_Rm_shows_19 (C : c_C) (i3 : Int32) (i4 : Int32) (i5 : Int32) (s : c_S) : b_Rm_shows_19 C i3 i4 i5 s =
  c_rg i3 136000 (
    c_bd (C 50 [v_r 34, v_i i4, v_i (s.1 41 i3.toNatClampNeg)] s) fun s1 x1 =>
    c_rg i3 136000 (
      b_Rm_shows_8 C (s1.1 42 i3.toNatClampNeg) x1 i5 s1))
  := (c_blkS_eq [8, 19, 43, 54, 72, 83, 118, 123, 126, 152, 162] d_CT T_Rm_shows L_Rm_shows 2 C 400 19 [(0, v_r 34), (3, v_i i3), (4, v_i i4), (5, v_i i5)] [] s).trans rfl
set_option maxRecDepth 200000 in
theorem e_Rm_shows_43 (C : c_C) (i3 : Int32) (i4 : Int32) (i5 : Int32) (s : c_S) : b_Rm_shows_43 C i3 i4 i5 s =
  c_rg i3 136000 (
    if s.1 40 i3.toNatClampNeg = 8 then
      b_Rm_shows_54 C i3 i4 i5 s
    else
      b_Rm_shows_72 C i3 i4 i5 s)
  := (c_blkS_eq [8, 19, 43, 54, 72, 83, 118, 123, 126, 152, 162] d_CT T_Rm_shows L_Rm_shows 2 C 400 43 [(0, v_r 34), (3, v_i i3), (4, v_i i4), (5, v_i i5)] [] s).trans rfl
set_option maxRecDepth 200000 in
theorem e_Rm_shows_54 (C : c_C) (i3 : Int32) (i4 : Int32) (i5 : Int32) (s : c_S) : b_Rm_shows_54 C i3 i4 i5 s =
  c_rg i3 136000 (
    c_rg (s.1 41 i3.toNatClampNeg) 101 (
      b_Rm_shows_8 C (s.1 50 ((s.1 41 i3.toNatClampNeg).toNatClampNeg)) ((-1)) i5 s))
  := (c_blkS_eq [8, 19, 43, 54, 72, 83, 118, 123, 126, 152, 162] d_CT T_Rm_shows L_Rm_shows 2 C 400 54 [(0, v_r 34), (3, v_i i3), (4, v_i i4), (5, v_i i5)] [] s).trans rfl
set_option maxRecDepth 200000 in
theorem e_Rm_shows_72 (C : c_C) (i3 : Int32) (i4 : Int32) (i5 : Int32) (s : c_S) : b_Rm_shows_72 C i3 i4 i5 s =
  c_rg i3 136000 (
    if s.1 40 i3.toNatClampNeg = 10 then
      b_Rm_shows_83 C i3 i4 i5 s
    else
      b_Rm_shows_118 C i3 i4 i5 s)
  := (c_blkS_eq [8, 19, 43, 54, 72, 83, 118, 123, 126, 152, 162] d_CT T_Rm_shows L_Rm_shows 2 C 400 72 [(0, v_r 34), (3, v_i i3), (4, v_i i4), (5, v_i i5)] [] s).trans rfl
set_option maxRecDepth 200000 in
theorem e_Rm_shows_83 (C : c_C) (i3 : Int32) (i4 : Int32) (i5 : Int32) (s : c_S) : b_Rm_shows_83 C i3 i4 i5 s =
  c_rg i3 136000 (
    c_rg i5 16000 (
      c_rg i5 16000 (
        c_rg i3 136000 (
          b_Rm_shows_8 C (s.1 41 i3.toNatClampNeg) i4 (i5 + 1) (c_put (c_put s 62 i5.toNatClampNeg (s.1 42 i3.toNatClampNeg)) 63 i5.toNatClampNeg i4)))))
  := (c_blkS_eq [8, 19, 43, 54, 72, 83, 118, 123, 126, 152, 162] d_CT T_Rm_shows L_Rm_shows 2 C 400 83 [(0, v_r 34), (3, v_i i3), (4, v_i i4), (5, v_i i5)] [] s).trans rfl
set_option maxRecDepth 200000 in
theorem e_Rm_shows_118 (C : c_C) (i3 : Int32) (i4 : Int32) (i5 : Int32) (s : c_S) : b_Rm_shows_118 C i3 i4 i5 s =
  if (0 : Int32) < i5 then
    b_Rm_shows_123 C i3 i4 i5 s
  else
    b_Rm_shows_162 C i3 i4 i5 s
  := (c_blkS_eq [8, 19, 43, 54, 72, 83, 118, 123, 126, 152, 162] d_CT T_Rm_shows L_Rm_shows 2 C 400 118 [(0, v_r 34), (3, v_i i3), (4, v_i i4), (5, v_i i5)] [] s).trans rfl
set_option maxRecDepth 200000 in
theorem e_Rm_shows_123 (C : c_C) (i3 : Int32) (i4 : Int32) (i5 : Int32) (s : c_S) : b_Rm_shows_123 C i3 i4 i5 s =
  b_Rm_shows_126 C i3 i4 (i5 + (-1)) s
  := (c_blkS_eq [8, 19, 43, 54, 72, 83, 118, 123, 126, 152, 162] d_CT T_Rm_shows L_Rm_shows 2 C 400 123 [(0, v_r 34), (3, v_i i3), (4, v_i i4), (5, v_i i5)] [] s).trans rfl
set_option maxRecDepth 200000 in
theorem e_Rm_shows_162 (C : c_C) (i3 : Int32) (i4 : Int32) (i5 : Int32) (s : c_S) : b_Rm_shows_162 C i3 i4 i5 s =
  c_bd (C 49 [v_r 34, v_i i3, v_i i4] s) fun s1 x1 =>
  if c_bz x1 = true then some (s1, x1) else none
  := (c_blkS_eq [8, 19, 43, 54, 72, 83, 118, 123, 126, 152, 162] d_CT T_Rm_shows L_Rm_shows 2 C 400 162 [(0, v_r 34), (3, v_i i3), (4, v_i i4), (5, v_i i5)] [] s).trans rfl
set_option maxRecDepth 200000 in
theorem e_Rm_shows_126 (C : c_C) (i3 : Int32) (i4 : Int32) (i5 : Int32) (s : c_S) : b_Rm_shows_126 C i3 i4 i5 s =
  c_rg i5 16000 (
    c_rg i5 16000 (
      c_bd (C 41 [v_r 34, v_i (s.1 62 i5.toNatClampNeg), v_i (s.1 63 i5.toNatClampNeg)] s) fun s1 x1 =>
      c_bd (C 42 [v_r 34, v_i x1, v_i i4] s1) fun s2 x2 =>
      b_Rm_shows_152 C i3 x2 i5 s2))
  := (c_blkS_eq [8, 19, 43, 54, 72, 83, 118, 123, 126, 152, 162] d_CT T_Rm_shows L_Rm_shows 2 C 400 126 [(0, v_r 34), (3, v_i i3), (4, v_i i4), (5, v_i i5)] [] s).trans rfl
set_option maxRecDepth 200000 in
theorem e_Rm_shows_152 (C : c_C) (i3 : Int32) (i4 : Int32) (i5 : Int32) (s : c_S) : b_Rm_shows_152 C i3 i4 i5 s =
  c_rg i3 136000 (
    b_Rm_shows_8 C (s.1 42 i3.toNatClampNeg) i4 i5 s)
  := (c_blkS_eq [8, 19, 43, 54, 72, 83, 118, 123, 126, 152, 162] d_CT T_Rm_shows L_Rm_shows 2 C 400 152 [(0, v_r 34), (3, v_i i3), (4, v_i i4), (5, v_i i5)] [] s).trans rfl
theorem m_Rm_shows (d : Nat) (i1 : Int32) (i2 : Int32) (s : c_S) : c_M (d + 1) 48 [v_r 34, v_i i1, v_i i2] s = b_Rm_shows_0 (c_M d) i1 i2 s := rfl
set_option maxRecDepth 20000 in
theorem e_Rm_shown_0 (C : c_C) (i1 : Int32) (i2 : Int32) (s : c_S) : b_Rm_shown_0 C i1 i2 s =
  c_rg i1 136000 (
    if s.1 40 i1.toNatClampNeg = 5 then
      b_Rm_shown_33 C i1 i2 s
    else
      c_rg i1 136000 (
        if s.1 40 i1.toNatClampNeg = 9 then
          b_Rm_shown_33 C i1 i2 s
        else
          some ((c_put (c_put s 34 47 i1) 34 48 i2), 0)))
  := (c_blk_eq d_CT T_Rm_shown L_Rm_shown 2 C 400 0 [(0, v_r 34), (1, v_i i1), (2, v_i i2)] [] s).trans rfl
set_option maxRecDepth 20000 in
theorem e_Rm_shown_33 (C : c_C) (i1 : Int32) (i2 : Int32) (s : c_S) : b_Rm_shown_33 C i1 i2 s =
  c_rg i1 136000 (
    c_rg i1 136000 (
      some ((c_put (c_put (c_put (c_put s 34 43 (s.1 41 i1.toNatClampNeg)) 34 44 i2) 34 45 (s.1 42 i1.toNatClampNeg)) 34 46 i2), 1)))
  := (c_blk_eq d_CT T_Rm_shown L_Rm_shown 2 C 400 33 [(0, v_r 34), (1, v_i i1), (2, v_i i2)] [] s).trans rfl
theorem m_Rm_shown (d : Nat) (i1 : Int32) (i2 : Int32) (s : c_S) : c_M (d + 1) 49 [v_r 34, v_i i1, v_i i2] s = b_Rm_shown_0 (c_M d) i1 i2 s := rfl
set_option maxRecDepth 20000 in
theorem e_Rm_without_0 (C : c_C) (i1 : Int32) (i2 : Int32) (s : c_S) : b_Rm_without_0 C i1 i2 s =
  b_Rm_without_5 C i2 i1 0 s
  := (c_blk_eq d_CT T_Rm_without L_Rm_without 1 C 400 0 [(0, v_r 34), (1, v_i i1), (2, v_i i2)] [] s).trans rfl
set_option maxRecDepth 20000 in
theorem e_Rm_without_5 (C : c_C) (i2 : Int32) (i3 : Int32) (i4 : Int32) (s : c_S) : b_Rm_without_5 C i2 i3 i4 s =
  if i4 < i2 then
    c_rg i3 400000 (
      b_Rm_without_5 C i2 (s.1 56 i3.toNatClampNeg) (i4 + 1) s)
  else
    some (s, i3)
  := (c_blk_eq d_CT T_Rm_without L_Rm_without 1 C 400 5 [(0, v_r 34), (2, v_i i2), (3, v_i i3), (4, v_i i4)] [] s).trans rfl
theorem m_Rm_without (d : Nat) (i1 : Int32) (i2 : Int32) (s : c_S) : c_M (d + 1) 50 [v_r 34, v_i i1, v_i i2] s = b_Rm_without_0 (c_M d) i1 i2 s := rfl
set_option maxRecDepth 20000 in
theorem e_Rm_heads_0 (C : c_C) (i1 : Int32) (i2 : Int32) (s : c_S) : b_Rm_heads_0 C i1 i2 s =
  c_rg i1 400000 (
    c_rg i1 400000 (
      b_Rm_heads_18 C (s.1 53 i1.toNatClampNeg) (s.1 54 i1.toNatClampNeg) i2 s))
  := (c_blk_eq d_CT T_Rm_heads L_Rm_heads 1 C 400 0 [(0, v_r 34), (1, v_i i1), (2, v_i i2)] [] s).trans rfl
set_option maxRecDepth 20000 in
theorem e_Rm_heads_18 (C : c_C) (i3 : Int32) (i4 : Int32) (i5 : Int32) (s : c_S) : b_Rm_heads_18 C i3 i4 i5 s =
  if i3 < 0 then
    some ((c_put (c_put s 34 51 i3) 34 52 i5), 0)
  else
    c_rg i3 136000 (
      if s.1 40 i3.toNatClampNeg = 6 then
        c_rg i3 136000 (
          c_bd (C 41 [v_r 34, v_i (s.1 42 i3.toNatClampNeg), v_i i4] s) fun s1 x1 =>
          c_bd (C 43 [v_r 34, v_i x1, v_i i5] s1) fun s2 x2 =>
          c_rg i3 136000 (
            b_Rm_heads_18 C (s2.1 41 i3.toNatClampNeg) i4 x2 s2))
      else
        c_rg i3 136000 (
          if s.1 40 i3.toNatClampNeg = 2 then
            c_rg i3 136000 (
              c_bd (C 50 [v_r 34, v_i i4, v_i (s.1 41 i3.toNatClampNeg)] s) fun s3 x3 =>
              c_rg x3 400000 (
                c_rg (s3.1 55 x3.toNatClampNeg) 400000 (
                  c_rg (s3.1 55 x3.toNatClampNeg) 400000 (
                    b_Rm_heads_18 C (s3.1 53 ((s3.1 55 x3.toNatClampNeg).toNatClampNeg)) (s3.1 54 ((s3.1 55 x3.toNatClampNeg).toNatClampNeg)) i5 s3))))
          else
            c_rg i3 136000 (
              if s.1 40 i3.toNatClampNeg = 4 then
                c_bd (C 45 [v_r 34] s) fun s4 x4 =>
                if x4 = 0 then
                  some (s4, 9)
                else
                  c_rg i5 400000 (
                    c_bd (C 42 [v_r 34, v_i (s4.1 57 i5.toNatClampNeg), v_i i4] s4) fun s5 x5 =>
                    b_Rm_heads_147 C i3 x5 i5 s5)
              else
                c_rg i3 136000 (
                  c_rg (s.1 41 i3.toNatClampNeg) 101 (
                    if s.1 51 ((s.1 41 i3.toNatClampNeg).toNatClampNeg) < 0 then
                      c_rg i3 136000 (
                        some ((c_put (c_put s 34 51 (s.1 41 i3.toNatClampNeg)) 34 52 i5), 0))
                    else
                      c_bd (C 45 [v_r 34] s) fun s6 x6 =>
                      if x6 = 0 then
                        some (s6, 9)
                      else
                        c_rg i3 136000 (
                          c_rg (s6.1 41 i3.toNatClampNeg) 101 (
                            b_Rm_heads_202 C (s6.1 51 ((s6.1 41 i3.toNatClampNeg).toNatClampNeg)) i5 s6)))))))
  := (c_blk_eq d_CT T_Rm_heads L_Rm_heads 1 C 400 18 [(0, v_r 34), (3, v_i i3), (4, v_i i4), (5, v_i i5)] [] s).trans rfl
set_option maxRecDepth 20000 in
theorem e_Rm_heads_147 (C : c_C) (i3 : Int32) (i4 : Int32) (i5 : Int32) (s : c_S) : b_Rm_heads_147 C i3 i4 i5 s =
  c_rg i5 400000 (
    c_rg i3 136000 (
      b_Rm_heads_18 C (s.1 42 i3.toNatClampNeg) i4 (s.1 58 i5.toNatClampNeg) s))
  := (c_blk_eq d_CT T_Rm_heads L_Rm_heads 1 C 400 147 [(0, v_r 34), (3, v_i i3), (4, v_i i4), (5, v_i i5)] [] s).trans rfl
set_option maxRecDepth 20000 in
theorem e_Rm_heads_202 (C : c_C) (i3 : Int32) (i5 : Int32) (s : c_S) : b_Rm_heads_202 C i3 i5 s =
  b_Rm_heads_18 C i3 ((-1)) i5 s
  := (c_blk_eq d_CT T_Rm_heads L_Rm_heads 1 C 400 202 [(0, v_r 34), (3, v_i i3), (5, v_i i5)] [] s).trans rfl
theorem m_Rm_heads (d : Nat) (i1 : Int32) (i2 : Int32) (s : c_S) : c_M (d + 1) 51 [v_r 34, v_i i1, v_i i2] s = b_Rm_heads_0 (c_M d) i1 i2 s := rfl
set_option maxRecDepth 20000 in
theorem e_Rm_manyBehind_0 (C : c_C) (i1 : Int32) (s : c_S) : b_Rm_manyBehind_0 C i1 s =
  b_Rm_manyBehind_4 C 0 i1 s
  := (c_blk_eq d_CT T_Rm_manyBehind L_Rm_manyBehind 1 C 400 0 [(0, v_r 34), (1, v_i i1)] [] s).trans rfl
set_option maxRecDepth 20000 in
theorem e_Rm_manyBehind_4 (C : c_C) (i2 : Int32) (i3 : Int32) (s : c_S) : b_Rm_manyBehind_4 C i2 i3 s =
  if i3 < 0 then
    some (s, i2)
  else
    c_rg i3 400000 (
      b_Rm_manyBehind_4 C (i2 + 1) (s.1 58 i3.toNatClampNeg) s)
  := (c_blk_eq d_CT T_Rm_manyBehind L_Rm_manyBehind 1 C 400 4 [(0, v_r 34), (2, v_i i2), (3, v_i i3)] [] s).trans rfl
theorem m_Rm_manyBehind (d : Nat) (i1 : Int32) (s : c_S) : c_M (d + 1) 52 [v_r 34, v_i i1] s = b_Rm_manyBehind_0 (c_M d) i1 s := rfl
set_option maxRecDepth 20000 in
theorem e_Rm_asks_0 (C : c_C)  (s : c_S) : b_Rm_asks_0 C  s =
  if s.1 34 53 = 100 then
    some (s, 10)
  else
    c_bd (C 45 [v_r 34] s) fun s1 x1 =>
    if x1 = 0 then
      some (s1, 9)
    else
      some ((c_put s1 34 53 ((s1.1 34 53) + 1)), 1)
  := (c_blk_eq d_CT T_Rm_asks L_Rm_asks 1 C 400 0 [(0, v_r 34)] [] s).trans rfl
theorem m_Rm_asks (d : Nat)  (s : c_S) : c_M (d + 1) 53 [v_r 34] s = b_Rm_asks_0 (c_M d)  s := rfl
set_option maxRecDepth 20000 in
theorem e_Rm_sameFamilies_0 (C : c_C) (i1 : Int32) (i2 : Int32) (i3 : Int32) (i4 : Int32) (s : c_S) : b_Rm_sameFamilies_0 C i1 i2 i3 i4 s =
  c_bd (C 53 [v_r 34] s) fun s1 x1 =>
  if x1 = 1 then
    c_bd (C 55 [v_r 34, v_i i1, v_i i2, v_i i3, v_i i4] s1) fun s2 x2 =>
    some ((c_put s2 34 53 ((s2.1 34 53) - 1)), x2)
  else
    some (s1, x1)
  := (c_blk_eq d_CT T_Rm_sameFamilies L_Rm_sameFamilies 1 C 400 0 [(0, v_r 34), (1, v_i i1), (2, v_i i2), (3, v_i i3), (4, v_i i4)] [] s).trans rfl
theorem m_Rm_sameFamilies (d : Nat) (i1 : Int32) (i2 : Int32) (i3 : Int32) (i4 : Int32) (s : c_S) : c_M (d + 1) 54 [v_r 34, v_i i1, v_i i2, v_i i3, v_i i4] s = b_Rm_sameFamilies_0 (c_M d) i1 i2 i3 i4 s := rfl
set_option maxRecDepth 20000 in
theorem e_Rm_sameAsked_0 (C : c_C) (i1 : Int32) (i2 : Int32) (i3 : Int32) (i4 : Int32) (s : c_S) : b_Rm_sameAsked_0 C i1 i2 i3 i4 s =
  c_bd (C 48 [v_r 34, v_i i1, v_i i2] s) fun s1 x1 =>
  b_Rm_sameAsked_26 C i3 i4 x1 (s1.1 34 43) (s1.1 34 44) (s1.1 34 45) s1
  := (c_blk_eq d_CT T_Rm_sameAsked L_Rm_sameAsked 1 C 400 0 [(0, v_r 34), (1, v_i i1), (2, v_i i2), (3, v_i i3), (4, v_i i4)] [] s).trans rfl
set_option maxRecDepth 20000 in
theorem e_Rm_sameAsked_26 (C : c_C) (i3 : Int32) (i4 : Int32) (i5 : Int32) (i6 : Int32) (i7 : Int32) (i8 : Int32) (s : c_S) : b_Rm_sameAsked_26 C i3 i4 i5 i6 i7 i8 s =
  c_bd (C 48 [v_r 34, v_i i3, v_i i4] s) fun s1 x1 =>
  b_Rm_sameAsked_53 C i5 i6 i7 i8 (s.1 34 46) (s.1 34 47) (s.1 34 48) x1 s1
  := (c_blk_eq d_CT T_Rm_sameAsked L_Rm_sameAsked 1 C 400 26 [(0, v_r 34), (3, v_i i3), (4, v_i i4), (5, v_i i5), (6, v_i i6), (7, v_i i7), (8, v_i i8)] [] s).trans rfl
set_option maxRecDepth 20000 in
theorem e_Rm_sameAsked_53 (C : c_C) (i5 : Int32) (i6 : Int32) (i7 : Int32) (i8 : Int32) (i9 : Int32) (i10 : Int32) (i11 : Int32) (i12 : Int32) (s : c_S) : b_Rm_sameAsked_53 C i5 i6 i7 i8 i9 i10 i11 i12 s =
  if i5 = i12 then
    if i5 = 0 then
      c_bd (C 57 [v_r 34, v_i i10, v_i i11, v_i (s.1 34 47), v_i (s.1 34 48)] s) fun s1 x1 =>
      some (s1, x1)
    else
      c_bd (C 54 [v_r 34, v_i i6, v_i i7, v_i (s.1 34 43), v_i (s.1 34 44)] s) fun s2 x2 =>
      b_Rm_sameAsked_114 C i6 i7 i8 i9 (s.1 34 45) (s.1 34 46) x2 s2
  else
    some (s, 0)
  := (c_blk_eq d_CT T_Rm_sameAsked L_Rm_sameAsked 1 C 400 53 [(0, v_r 34), (5, v_i i5), (6, v_i i6), (7, v_i i7), (8, v_i i8), (9, v_i i9), (10, v_i i10), (11, v_i i11), (12, v_i i12)] [] s).trans rfl
set_option maxRecDepth 20000 in
theorem e_Rm_sameAsked_114 (C : c_C) (i6 : Int32) (i7 : Int32) (i8 : Int32) (i9 : Int32) (i13 : Int32) (i14 : Int32) (i15 : Int32) (s : c_S) : b_Rm_sameAsked_114 C i6 i7 i8 i9 i13 i14 i15 s =
  if i15 = 1 then
    c_bd (C 44 [v_r 34, v_i i6, v_i i7, v_i 0] s) fun s1 x1 =>
    c_bd (C 42 [v_r 34, v_i x1, v_i i9] s1) fun s2 x2 =>
    c_bd (C 42 [v_r 34, v_i x1, v_i i14] s2) fun s3 x3 =>
    c_bd (C 54 [v_r 34, v_i i8, v_i x2, v_i i13, v_i x3] s3) fun s4 x4 =>
    some (s4, x4)
  else
    some (s, i15)
  := (c_blk_eq d_CT T_Rm_sameAsked L_Rm_sameAsked 1 C 400 114 [(0, v_r 34), (6, v_i i6), (7, v_i i7), (8, v_i i8), (9, v_i i9), (13, v_i i13), (14, v_i i14), (15, v_i i15)] [] s).trans rfl
theorem m_Rm_sameAsked (d : Nat) (i1 : Int32) (i2 : Int32) (i3 : Int32) (i4 : Int32) (s : c_S) : c_M (d + 1) 55 [v_r 34, v_i i1, v_i i2, v_i i3, v_i i4] s = b_Rm_sameAsked_0 (c_M d) i1 i2 i3 i4 s := rfl
set_option maxRecDepth 20000 in
theorem e_Rm_behindOf_0 (C : c_C) (i1 : Int32) (i2 : Int32) (s : c_S) : b_Rm_behindOf_0 C i1 i2 s =
  b_Rm_behindOf_5 C i2 ((-1)) i1 s
  := (c_blk_eq d_CT T_Rm_behindOf L_Rm_behindOf 1 C 400 0 [(0, v_r 34), (1, v_i i1), (2, v_i i2)] [] s).trans rfl
set_option maxRecDepth 20000 in
theorem e_Rm_behindOf_5 (C : c_C) (i2 : Int32) (i3 : Int32) (i4 : Int32) (s : c_S) : b_Rm_behindOf_5 C i2 i3 i4 s =
  c_rg i4 136000 (
    if s.1 40 i4.toNatClampNeg = 6 then
      c_rg i4 136000 (
        c_bd (C 41 [v_r 34, v_i (s.1 42 i4.toNatClampNeg), v_i i2] s) fun s1 x1 =>
        c_bd (C 43 [v_r 34, v_i x1, v_i i3] s1) fun s2 x2 =>
        c_rg i4 136000 (
          b_Rm_behindOf_5 C i2 x2 (s2.1 41 i4.toNatClampNeg) s2))
    else
      c_rg i4 136000 (
        some ((c_put s 34 51 (s.1 41 i4.toNatClampNeg)), i3)))
  := (c_blk_eq d_CT T_Rm_behindOf L_Rm_behindOf 1 C 400 5 [(0, v_r 34), (2, v_i i2), (3, v_i i3), (4, v_i i4)] [] s).trans rfl
theorem m_Rm_behindOf (d : Nat) (i1 : Int32) (i2 : Int32) (s : c_S) : c_M (d + 1) 56 [v_r 34, v_i i1, v_i i2] s = b_Rm_behindOf_0 (c_M d) i1 i2 s := rfl
set_option maxRecDepth 20000 in
theorem e_Rm_sameSpines_0 (C : c_C) (i1 : Int32) (i2 : Int32) (i3 : Int32) (i4 : Int32) (s : c_S) : b_Rm_sameSpines_0 C i1 i2 i3 i4 s =
  c_bd (C 56 [v_r 34, v_i i1, v_i i2] s) fun s1 x1 =>
  c_bd (C 56 [v_r 34, v_i i3, v_i i4] s1) fun s2 x2 =>
  if s2.1 34 51 = s1.1 34 51 then
    b_Rm_sameSpines_34 C x1 (s1.1 34 51) x2 s2
  else
    b_Rm_sameSpines_32 C  s2
  := (c_blk_eq d_CT T_Rm_sameSpines L_Rm_sameSpines 1 C 400 0 [(0, v_r 34), (1, v_i i1), (2, v_i i2), (3, v_i i3), (4, v_i i4)] [] s).trans rfl
set_option maxRecDepth 20000 in
theorem e_Rm_sameSpines_34 (C : c_C) (i5 : Int32) (i6 : Int32) (i7 : Int32) (s : c_S) : b_Rm_sameSpines_34 C i5 i6 i7 s =
  c_rg i6 101 (
    c_bd (C 58 [v_r 34, v_i (s.1 50 i6.toNatClampNeg), v_i ((-1)), v_i i5, v_i i7] s) fun s1 x1 =>
    some (s1, x1))
  := (c_blk_eq d_CT T_Rm_sameSpines L_Rm_sameSpines 1 C 400 34 [(0, v_r 34), (5, v_i i5), (6, v_i i6), (7, v_i i7)] [] s).trans rfl
set_option maxRecDepth 20000 in
theorem e_Rm_sameSpines_32 (C : c_C)  (s : c_S) : b_Rm_sameSpines_32 C  s =
  some (s, 0)
  := (c_blk_eq d_CT T_Rm_sameSpines L_Rm_sameSpines 1 C 400 32 [] [] s).trans rfl
theorem m_Rm_sameSpines (d : Nat) (i1 : Int32) (i2 : Int32) (i3 : Int32) (i4 : Int32) (s : c_S) : c_M (d + 1) 57 [v_r 34, v_i i1, v_i i2, v_i i3, v_i i4] s = b_Rm_sameSpines_0 (c_M d) i1 i2 i3 i4 s := rfl
set_option maxRecDepth 20000 in
theorem e_Rm_sameBehind_0 (C : c_C) (i1 : Int32) (i2 : Int32) (i3 : Int32) (i4 : Int32) (s : c_S) : b_Rm_sameBehind_0 C i1 i2 i3 i4 s =
  b_Rm_sameBehind_13 C i1 i2 i3 i4 s
  := (c_blk_eq d_CT T_Rm_sameBehind L_Rm_sameBehind 1 C 400 0 [(0, v_r 34), (1, v_i i1), (2, v_i i2), (3, v_i i3), (4, v_i i4)] [] s).trans rfl
set_option maxRecDepth 20000 in
theorem e_Rm_sameBehind_13 (C : c_C) (i5 : Int32) (i6 : Int32) (i7 : Int32) (i8 : Int32) (s : c_S) : b_Rm_sameBehind_13 C i5 i6 i7 i8 s =
  if i7 < 0 then
    some (s, 1)
  else
    c_bd (C 48 [v_r 34, v_i i5, v_i i6] s) fun s1 x1 =>
    c_rg i7 400000 (
      b_Rm_sameBehind_49 C i7 i8 (s1.1 34 45) (s1.1 34 46) (s1.1 57 i7.toNatClampNeg) s1)
  := (c_blk_eq d_CT T_Rm_sameBehind L_Rm_sameBehind 1 C 400 13 [(0, v_r 34), (5, v_i i5), (6, v_i i6), (7, v_i i7), (8, v_i i8)] [] s).trans rfl
set_option maxRecDepth 20000 in
theorem e_Rm_sameBehind_49 (C : c_C) (i7 : Int32) (i8 : Int32) (i10 : Int32) (i11 : Int32) (i12 : Int32) (s : c_S) : b_Rm_sameBehind_49 C i7 i8 i10 i11 i12 s =
  c_rg i8 400000 (
    c_bd (C 60 [v_r 34, v_i i12, v_i ((-1)), v_i (s.1 57 i8.toNatClampNeg), v_i ((-1)), v_i (s.1 34 43), v_i (s.1 34 44)] s) fun s1 x1 =>
    if x1 = 1 then
      c_bd (C 42 [v_r 34, v_i i12, v_i i11] s1) fun s2 x2 =>
      b_Rm_sameBehind_97 C i10 x2 i7 i8 s2
    else
      some (s1, x1))
  := (c_blk_eq d_CT T_Rm_sameBehind L_Rm_sameBehind 1 C 400 49 [(0, v_r 34), (7, v_i i7), (8, v_i i8), (10, v_i i10), (11, v_i i11), (12, v_i i12)] [] s).trans rfl
set_option maxRecDepth 20000 in
theorem e_Rm_sameBehind_97 (C : c_C) (i5 : Int32) (i6 : Int32) (i7 : Int32) (i8 : Int32) (s : c_S) : b_Rm_sameBehind_97 C i5 i6 i7 i8 s =
  c_rg i7 400000 (
    c_rg i8 400000 (
      b_Rm_sameBehind_13 C i5 i6 (s.1 58 i7.toNatClampNeg) (s.1 58 i8.toNatClampNeg) s))
  := (c_blk_eq d_CT T_Rm_sameBehind L_Rm_sameBehind 1 C 400 97 [(0, v_r 34), (5, v_i i5), (6, v_i i6), (7, v_i i7), (8, v_i i8)] [] s).trans rfl
theorem m_Rm_sameBehind (d : Nat) (i1 : Int32) (i2 : Int32) (i3 : Int32) (i4 : Int32) (s : c_S) : c_M (d + 1) 58 [v_r 34, v_i i1, v_i i2, v_i i3, v_i i4] s = b_Rm_sameBehind_0 (c_M d) i1 i2 i3 i4 s := rfl
set_option maxRecDepth 20000 in
theorem e_Rm_append_0 (C : c_C) (i1 : Int32) (i2 : Int32) (s : c_S) : b_Rm_append_0 C i1 i2 s =
  if i1 < 0 then
    c_bd (C 43 [v_r 34, v_i i2, v_i ((-1))] s) fun s1 x1 =>
    some (s1, x1)
  else
    c_rg i1 400000 (
      c_rg i1 400000 (
        c_bd (C 59 [v_r 34, v_i (s.1 58 i1.toNatClampNeg), v_i i2] s) fun s2 x2 =>
        c_bd (C 43 [v_r 34, v_i (s.1 57 i1.toNatClampNeg), v_i x2] s2) fun s3 x3 =>
        some (s3, x3)))
  := (c_blk_eq d_CT T_Rm_append L_Rm_append 1 C 400 0 [(0, v_r 34), (1, v_i i1), (2, v_i i2)] [] s).trans rfl
theorem m_Rm_append (d : Nat) (i1 : Int32) (i2 : Int32) (s : c_S) : c_M (d + 1) 59 [v_r 34, v_i i1, v_i i2] s = b_Rm_append_0 (c_M d) i1 i2 s := rfl
set_option maxRecDepth 20000 in
theorem e_Rm_sameObjects_0 (C : c_C) (i1 : Int32) (i2 : Int32) (i3 : Int32) (i4 : Int32) (i5 : Int32) (i6 : Int32) (s : c_S) : b_Rm_sameObjects_0 C i1 i2 i3 i4 i5 i6 s =
  c_bd (C 53 [v_r 34] s) fun s1 x1 =>
  if x1 = 1 then
    c_bd (C 61 [v_r 34, v_i i1, v_i i2, v_i i3, v_i i4, v_i i5, v_i i6] s1) fun s2 x2 =>
    some ((c_put s2 34 53 ((s2.1 34 53) - 1)), x2)
  else
    some (s1, x1)
  := (c_blk_eq d_CT T_Rm_sameObjects L_Rm_sameObjects 1 C 400 0 [(0, v_r 34), (1, v_i i1), (2, v_i i2), (3, v_i i3), (4, v_i i4), (5, v_i i5), (6, v_i i6)] [] s).trans rfl
theorem m_Rm_sameObjects (d : Nat) (i1 : Int32) (i2 : Int32) (i3 : Int32) (i4 : Int32) (i5 : Int32) (i6 : Int32) (s : c_S) : c_M (d + 1) 60 [v_r 34, v_i i1, v_i i2, v_i i3, v_i i4, v_i i5, v_i i6] s = b_Rm_sameObjects_0 (c_M d) i1 i2 i3 i4 i5 i6 s := rfl
set_option maxRecDepth 20000 in
theorem e_Rm_sameObjectsAsked_0 (C : c_C) (i1 : Int32) (i2 : Int32) (i3 : Int32) (i4 : Int32) (i5 : Int32) (i6 : Int32) (s : c_S) : b_Rm_sameObjectsAsked_0 C i1 i2 i3 i4 i5 i6 s =
  c_bd (C 48 [v_r 34, v_i i5, v_i i6] s) fun s1 x1 =>
  if x1 = 0 then
    c_bd (C 51 [v_r 34, v_i i1, v_i i2] s1) fun s2 x2 =>
    if (0 : Int32) < x2 then
      some (s2, x2)
    else
      b_Rm_sameObjectsAsked_98 C i3 i4 (s2.1 34 51) (s2.1 34 52) s2
  else
    c_bd (C 44 [v_r 34, v_i (s1.1 34 43), v_i (s1.1 34 44), v_i 0] s1) fun s3 x3 =>
    b_Rm_sameObjectsAsked_38 C i1 i2 i3 i4 (s1.1 34 45) (s1.1 34 46) x3 s3
  := (c_blk_eq d_CT T_Rm_sameObjectsAsked L_Rm_sameObjectsAsked 1 C 400 0 [(0, v_r 34), (1, v_i i1), (2, v_i i2), (3, v_i i3), (4, v_i i4), (5, v_i i5), (6, v_i i6)] [] s).trans rfl
set_option maxRecDepth 20000 in
theorem e_Rm_sameObjectsAsked_98 (C : c_C) (i3 : Int32) (i4 : Int32) (i8 : Int32) (i9 : Int32) (s : c_S) : b_Rm_sameObjectsAsked_98 C i3 i4 i8 i9 s =
  c_bd (C 51 [v_r 34, v_i i3, v_i i4] s) fun s1 x1 =>
  if (0 : Int32) < x1 then
    some (s1, x1)
  else
    if i8 = s1.1 34 51 then
      c_bd (C 52 [v_r 34, v_i i9] s1) fun s2 x2 =>
      c_bd (C 52 [v_r 34, v_i (s2.1 34 52)] s2) fun s3 x3 =>
      if x2 = x3 then
        if i8 < 0 then
          b_Rm_sameObjectsAsked_148 C i8 i9 s3
        else
          b_Rm_sameObjectsAsked_181 C i8 i9 s3
      else
        some (s3, 0)
    else
      some (s1, 0)
  := (c_blk_eq d_CT T_Rm_sameObjectsAsked L_Rm_sameObjectsAsked 1 C 400 98 [(0, v_r 34), (3, v_i i3), (4, v_i i4), (8, v_i i8), (9, v_i i9)] [] s).trans rfl
set_option maxRecDepth 20000 in
theorem e_Rm_sameObjectsAsked_38 (C : c_C) (i1 : Int32) (i2 : Int32) (i3 : Int32) (i4 : Int32) (i7 : Int32) (i8 : Int32) (i9 : Int32) (s : c_S) : b_Rm_sameObjectsAsked_38 C i1 i2 i3 i4 i7 i8 i9 s =
  c_bd (C 59 [v_r 34, v_i i2, v_i i9] s) fun s1 x1 =>
  c_bd (C 59 [v_r 34, v_i i4, v_i i9] s1) fun s2 x2 =>
  c_bd (C 42 [v_r 34, v_i i9, v_i i8] s2) fun s3 x3 =>
  c_bd (C 60 [v_r 34, v_i i1, v_i x1, v_i i3, v_i x2, v_i i7, v_i x3] s3) fun s4 x4 =>
  some (s4, x4)
  := (c_blk_eq d_CT T_Rm_sameObjectsAsked L_Rm_sameObjectsAsked 1 C 400 38 [(0, v_r 34), (1, v_i i1), (2, v_i i2), (3, v_i i3), (4, v_i i4), (7, v_i i7), (8, v_i i8), (9, v_i i9)] [] s).trans rfl
set_option maxRecDepth 20000 in
theorem e_Rm_sameObjectsAsked_148 (C : c_C) (i8 : Int32) (i9 : Int32) (s : c_S) : b_Rm_sameObjectsAsked_148 C i8 i9 s =
  c_rg ((-i8) - 1) 24000 (
    c_rg ((-i8) - 1) 24000 (
      c_bd (C 58 [v_r 34, v_i (s.1 59 (((-i8) - 1).toNatClampNeg)), v_i (s.1 60 (((-i8) - 1).toNatClampNeg)), v_i i9, v_i (s.1 34 52)] s) fun s1 x1 =>
      some (s1, x1)))
  := (c_blk_eq d_CT T_Rm_sameObjectsAsked L_Rm_sameObjectsAsked 1 C 400 148 [(0, v_r 34), (8, v_i i8), (9, v_i i9)] [] s).trans rfl
set_option maxRecDepth 20000 in
theorem e_Rm_sameObjectsAsked_181 (C : c_C) (i8 : Int32) (i9 : Int32) (s : c_S) : b_Rm_sameObjectsAsked_181 C i8 i9 s =
  c_rg i8 101 (
    c_bd (C 58 [v_r 34, v_i (s.1 50 i8.toNatClampNeg), v_i ((-1)), v_i i9, v_i (s.1 34 52)] s) fun s1 x1 =>
    some (s1, x1))
  := (c_blk_eq d_CT T_Rm_sameObjectsAsked L_Rm_sameObjectsAsked 1 C 400 181 [(0, v_r 34), (8, v_i i8), (9, v_i i9)] [] s).trans rfl
theorem m_Rm_sameObjectsAsked (d : Nat) (i1 : Int32) (i2 : Int32) (i3 : Int32) (i4 : Int32) (i5 : Int32) (i6 : Int32) (s : c_S) : c_M (d + 1) 61 [v_r 34, v_i i1, v_i i2, v_i i3, v_i i4, v_i i5, v_i i6] s = b_Rm_sameObjectsAsked_0 (c_M d) i1 i2 i3 i4 i5 i6 s := rfl
set_option maxRecDepth 20000 in
theorem e_Rm_equalFamilies_0 (C : c_C) (i1 : Int32) (i2 : Int32) (i3 : Int32) (i4 : Int32) (s : c_S) : b_Rm_equalFamilies_0 C i1 i2 i3 i4 s =
  b_Rm_equalFamilies_29 C i1 i2 i3 i4 (s.1 34 30) (s.1 34 33) (s.1 34 36) (s.1 34 40) (c_put s 34 53 0)
  := (c_blk_eq d_CT T_Rm_equalFamilies L_Rm_equalFamilies 1 C 400 0 [(0, v_r 34), (1, v_i i1), (2, v_i i2), (3, v_i i3), (4, v_i i4)] [] s).trans rfl
set_option maxRecDepth 20000 in
theorem e_Rm_equalFamilies_29 (C : c_C) (i1 : Int32) (i2 : Int32) (i3 : Int32) (i4 : Int32) (i5 : Int32) (i6 : Int32) (i7 : Int32) (i8 : Int32) (s : c_S) : b_Rm_equalFamilies_29 C i1 i2 i3 i4 i5 i6 i7 i8 s =
  c_bd (C 54 [v_r 34, v_i i1, v_i i2, v_i i3, v_i i4] s) fun s1 x1 =>
  some ((c_put (c_put (c_put (c_put s1 34 30 i5) 34 33 i6) 34 36 i7) 34 40 i8), x1)
  := (c_blk_eq d_CT T_Rm_equalFamilies L_Rm_equalFamilies 1 C 400 29 [(0, v_r 34), (1, v_i i1), (2, v_i i2), (3, v_i i3), (4, v_i i4), (5, v_i i5), (6, v_i i6), (7, v_i i7), (8, v_i i8)] [] s).trans rfl
theorem m_Rm_equalFamilies (d : Nat) (i1 : Int32) (i2 : Int32) (i3 : Int32) (i4 : Int32) (s : c_S) : c_M (d + 1) 62 [v_r 34, v_i i1, v_i i2, v_i i3, v_i i4] s = b_Rm_equalFamilies_0 (c_M d) i1 i2 i3 i4 s := rfl
set_option maxRecDepth 20000 in
theorem e_Rm_wanted_0 (C : c_C) (i1 : Int32) (i2 : Int32) (i3 : Int32) (i4 : Int32) (i5 : Int32) (s : c_S) : b_Rm_wanted_0 C i1 i2 i3 i4 i5 s =
  c_bd (C 62 [v_r 34, v_i i1, v_i i2, v_i i3, v_i i4] s) fun s1 x1 =>
  if x1 = 1 then
    some (s1, 0)
  else
    if x1 = 0 then
      b_Rm_wanted_30 C i5 7 s1
    else
      b_Rm_wanted_30 C i5 x1 s1
  := (c_blk_eq d_CT T_Rm_wanted L_Rm_wanted 0 C 400 0 [(0, v_r 34), (1, v_i i1), (2, v_i i2), (3, v_i i3), (4, v_i i4), (5, v_i i5)] [] s).trans rfl
set_option maxRecDepth 20000 in
theorem e_Rm_wanted_30 (C : c_C) (i5 : Int32) (t0 : Int32) (s : c_S) : b_Rm_wanted_30 C i5 t0 s =
  c_bd (C 25 [v_r 34, v_i t0, v_i i5] s) fun s1 _ =>
  some (s1, 0)
  := (c_blk_eq d_CT T_Rm_wanted L_Rm_wanted 0 C 400 30 [(5, v_i i5)] [v_i t0, v_r 34] s).trans rfl
