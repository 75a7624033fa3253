noncomputable def b_Fb_feed_0 (C : c_C) (j1 : Int64) (j3 : Int64) (j5 : Int64) (s : c_S) : c_R := c_run d_CT T_Fb_feed L_Fb_feed 1 C 0 [(0, v_r 0), (1, v_l j1), (3, v_l j3), (5, v_l j5)] [] s
noncomputable def b_Fb_declare_0 (C : c_C)  (s : c_S) : c_R := c_run d_CT T_Fb_declare L_Fb_declare 1 C 0 [(0, v_r 0)] [] s
noncomputable def b_Fb_declare_8 (C : c_C) (i1 : Int32) (i2 : Int32) (s : c_S) : c_R := c_run d_CT T_Fb_declare L_Fb_declare 1 C 8 [(0, v_r 0), (1, v_i i1), (2, v_i i2)] [] s
noncomputable def b_Fb_declare_45 (C : c_C) (i1 : Int32) (i2 : Int32) (i3 : Int32) (s : c_S) : c_R := c_run d_CT T_Fb_declare L_Fb_declare 1 C 45 [(0, v_r 0), (1, v_i i1), (2, v_i i2), (3, v_i i3)] [] s
noncomputable def b_Fb_declare_146 (C : c_C) (i1 : Int32) (s : c_S) : c_R := c_run d_CT T_Fb_declare L_Fb_declare 1 C 146 [(0, v_r 0), (1, v_i i1)] [] s
noncomputable def b_Fb_declare_71 (C : c_C) (i1 : Int32) (i2 : Int32) (i3 : Int32) (s : c_S) : c_R := c_run d_CT T_Fb_declare L_Fb_declare 1 C 71 [(0, v_r 0), (1, v_i i1), (2, v_i i2), (3, v_i i3)] [] s
noncomputable def b_Fb_canon_0 (C : c_C)  (s : c_S) : c_R := c_run d_CT T_Fb_canon L_Fb_canon 1 C 0 [(0, v_r 0)] [] s
noncomputable def b_Fb_type_0 (C : c_C)  (s : c_S) : c_R := c_run d_CT T_Fb_type L_Fb_type 1 C 0 [(0, v_r 0)] [] s
noncomputable def b_Fb_equal_0 (C : c_C)  (s : c_S) : c_R := c_run d_CT T_Fb_equal L_Fb_equal 1 C 0 [(0, v_r 0)] [] s
noncomputable def b_Fb_equal_31 (C : c_C) (i1 : Int32) (i2 : Int32) (i3 : Int32) (s : c_S) : c_R := c_run d_CT T_Fb_equal L_Fb_equal 1 C 31 [(0, v_r 0), (1, v_i i1), (2, v_i i2), (3, v_i i3)] [] s
noncomputable def b_Fb_equal_55 (C : c_C) (i1 : Int32) (i2 : Int32) (i3 : Int32) (i4 : Int32) (s : c_S) : c_R := c_run d_CT T_Fb_equal L_Fb_equal 1 C 55 [(0, v_r 0), (1, v_i i1), (2, v_i i2), (3, v_i i3), (4, v_i i4)] [] s
noncomputable def b_Fb_equal_70 (C : c_C) (i1 : Int32) (i2 : Int32) (i3 : Int32) (i4 : Int32) (s : c_S) : c_R := c_run d_CT T_Fb_equal L_Fb_equal 1 C 70 [(0, v_r 0), (1, v_i i1), (2, v_i i2), (3, v_i i3), (4, v_i i4)] [] s
noncomputable def b_Fb_equal_88 (C : c_C) (i1 : Int32) (t0 : Int32) (s : c_S) : c_R := c_run d_CT T_Fb_equal L_Fb_equal 1 C 88 [(0, v_r 0), (1, v_i i1)] [v_i t0] s
noncomputable def b_Fb_named_0 (C : c_C)  (s : c_S) : c_R := c_run d_CT T_Fb_named L_Fb_named 1 C 0 [(0, v_r 0)] [] s
noncomputable def b_Fb_named_46 (C : c_C) (i2 : Int32) (s : c_S) : c_R := c_run d_CT T_Fb_named L_Fb_named 1 C 46 [(0, v_r 0), (2, v_i i2)] [] s
noncomputable def b_Fb_named_69 (C : c_C) (i1 : Int32) (s : c_S) : c_R := c_run d_CT T_Fb_named L_Fb_named 1 C 69 [(0, v_r 0), (1, v_i i1)] [] s
noncomputable def b_Fb_constant_0 (C : c_C) (i1 : Int32) (i2 : Int32) (s : c_S) : c_R := c_run d_CT T_Fb_constant L_Fb_constant 1 C 0 [(0, v_r 0), (1, v_i i1), (2, v_i i2)] [] s
noncomputable def b_Fb_size_0 (C : c_C)  (s : c_S) : c_R := c_run d_CT T_Fb_size L_Fb_size 1 C 0 [(0, v_r 0)] [] s
noncomputable def b_Fb_out_0 (C : c_C) (i1 : Int32) (s : c_S) : c_R := c_run d_CT T_Fb_out L_Fb_out 1 C 0 [(0, v_r 0), (1, v_i i1)] [] s
noncomputable def b_Fb_forget_0 (C : c_C) (i1 : Int32) (s : c_S) : c_R := c_run d_CT T_Fb_forget L_Fb_forget 1 C 0 [(0, v_r 0), (1, v_i i1)] [] s
noncomputable def b_Fb_count_0 (C : c_C) (i1 : Int32) (s : c_S) : c_R := c_run d_CT T_Fb_count L_Fb_count 1 C 0 [(0, v_r 0), (1, v_i i1)] [] s
noncomputable def b_Fb_begin_0 (C : c_C)  (s : c_S) : c_R := c_run d_CT T_Fb_begin L_Fb_begin 0 C 0 [(0, v_r 0)] [] s
noncomputable def b_Fb_writtenForm_0 (C : c_C) (i1 : Int32) (s : c_S) : c_R := c_run d_CT T_Fb_writtenForm L_Fb_writtenForm 1 C 0 [(0, v_r 0), (1, v_i i1)] [] s
noncomputable def b_Fb_writtenForm_30 (C : c_C) (i1 : Int32) (i2 : Int32) (i3 : Int32) (i4 : Int32) (s : c_S) : c_R := c_run d_CT T_Fb_writtenForm L_Fb_writtenForm 1 C 30 [(0, v_r 0), (1, v_i i1), (2, v_i i2), (3, v_i i3), (4, v_i i4)] [] s
noncomputable def b_Fb_writtenForm_45 (C : c_C) (i1 : Int32) (i2 : Int32) (i3 : Int32) (i4 : Int32) (s : c_S) : c_R := c_run d_CT T_Fb_writtenForm L_Fb_writtenForm 1 C 45 [(0, v_r 0), (1, v_i i1), (2, v_i i2), (3, v_i i3), (4, v_i i4)] [] s
noncomputable def b_Fb_writtenForm_65 (C : c_C) (i2 : Int32) (i4 : Int32) (s : c_S) : c_R := c_run d_CT T_Fb_writtenForm L_Fb_writtenForm 1 C 65 [(0, v_r 0), (2, v_i i2), (4, v_i i4)] [] s
noncomputable def b_Fb_comparison_0 (C : c_C) (i1 : Int32) (i2 : Int32) (s : c_S) : c_R := c_run d_CT T_Fb_comparison L_Fb_comparison 1 C 0 [(0, v_r 0), (1, v_i i1), (2, v_i i2)] [] s
noncomputable def b_Fb_comparison_34 (C : c_C) (i3 : Int32) (t0 : Int32) (s : c_S) : c_R := c_run d_CT T_Fb_comparison L_Fb_comparison 1 C 34 [(0, v_r 0), (3, v_i i3)] [v_i t0] s
noncomputable def b_Fb_troubleAtEnd_0 (C : c_C)  (s : c_S) : c_R := c_run d_CT T_Fb_troubleAtEnd L_Fb_troubleAtEnd 1 C 0 [(0, v_r 0)] [] s
noncomputable def b_Fb_faultAt_0 (C : c_C) (i0 : Int32) (i1 : Int32) (s : c_S) : c_R := c_run d_CT T_Fb_faultAt L_Fb_faultAt 1 C 0 [(0, v_i i0), (1, v_i i1)] [] s
noncomputable def b_Fb_isLetter_0 (C : c_C) (i0 : Int32) (s : c_S) : c_R := c_run d_CT T_Fb_isLetter L_Fb_isLetter 2 C 0 [(0, v_i i0)] [] s
noncomputable def b_Fb_isDigit_0 (C : c_C) (i0 : Int32) (s : c_S) : c_R := c_run d_CT T_Fb_isDigit L_Fb_isDigit 2 C 0 [(0, v_i i0)] [] s
noncomputable def b_Ck_sort_0 (C : c_C)  (s : c_S) : c_R := c_run d_CT T_Ck_sort L_Ck_sort 1 C 0 [(0, v_r 32)] [] s
noncomputable def b_Ck_faultOfDeclaration_0 (C : c_C) (i1 : Int32) (i2 : Int32) (s : c_S) : c_R := c_run d_CT T_Ck_faultOfDeclaration L_Ck_faultOfDeclaration 1 C 0 [(0, v_r 32), (1, v_i i1), (2, v_i i2)] [] s
noncomputable def b_Ck_faultOfDeclaration_17 (C : c_C) (i1 : Int32) (i2 : Int32) (t0 : Int32) (t1 : Int32) (t2 : Int32) (s : c_S) : c_R := c_run d_CT T_Ck_faultOfDeclaration L_Ck_faultOfDeclaration 1 C 17 [(0, v_r 32), (1, v_i i1), (2, v_i i2)] [v_i t0, v_i t1, v_i t2, v_r 32] s
noncomputable def b_Ck_faultOfObject_0 (C : c_C) (i1 : Int32) (s : c_S) : c_R := c_run d_CT T_Ck_faultOfObject L_Ck_faultOfObject 1 C 0 [(0, v_r 32), (1, v_i i1)] [] s
noncomputable def b_Ck_wrong_0 (C : c_C) (i1 : Int32) (i2 : Int32) (s : c_S) : c_R := c_run d_CT T_Ck_wrong L_Ck_wrong 0 C 0 [(0, v_r 32), (1, v_i i1), (2, v_i i2)] [] s
noncomputable def b_Ck_step_0 (C : c_C) (i1 : Int32) (s : c_S) : c_R := c_run d_CT T_Ck_step L_Ck_step 2 C 0 [(0, v_r 32), (1, v_i i1)] [] s
noncomputable def b_Ck_classifier_0 (C : c_C) (i1 : Int32) (i2 : Int32) (i3 : Int32) (s : c_S) : c_R := c_run d_CT T_Ck_classifier L_Ck_classifier 2 C 0 [(0, v_r 32), (1, v_i i1), (2, v_i i2), (3, v_i i3)] [] s
noncomputable def b_Ck_classifier_18 (C : c_C) (i3 : Int32) (i4 : Int32) (i5 : Int32) (i6 : Int32) (i7 : Int32) (s : c_S) : c_R := c_run d_CT T_Ck_classifier L_Ck_classifier 2 C 18 [(0, v_r 32), (3, v_i i3), (4, v_i i4), (5, v_i i5), (6, v_i i6), (7, v_i i7)] [] s
noncomputable def b_Ck_classifier_84 (C : c_C) (i3 : Int32) (i4 : Int32) (i5 : Int32) (i6 : Int32) (i7 : Int32) (s : c_S) : c_R := c_run d_CT T_Ck_classifier L_Ck_classifier 2 C 84 [(0, v_r 32), (3, v_i i3), (4, v_i i4), (5, v_i i5), (6, v_i i6), (7, v_i i7)] [] s
noncomputable def b_Ck_classifier_101 (C : c_C) (i3 : Int32) (i4 : Int32) (i5 : Int32) (i6 : Int32) (s : c_S) : c_R := c_run d_CT T_Ck_classifier L_Ck_classifier 2 C 101 [(0, v_r 32), (3, v_i i3), (4, v_i i4), (5, v_i i5), (6, v_i i6)] [] s
noncomputable def b_Ck_classifier_123 (C : c_C) (i4 : Int32) (i5 : Int32) (i6 : Int32) (t0 : Int32) (s : c_S) : c_R := c_run d_CT T_Ck_classifier L_Ck_classifier 2 C 123 [(0, v_r 32), (4, v_i i4), (5, v_i i5), (6, v_i i6)] [v_i t0] s
noncomputable def b_Ck_classifier_155 (C : c_C) (i6 : Int32) (i7 : Int32) (s : c_S) : c_R := c_run d_CT T_Ck_classifier L_Ck_classifier 2 C 155 [(0, v_r 32), (6, v_i i6), (7, v_i i7)] [] s
noncomputable def b_Ck_under_0 (C : c_C) (i1 : Int32) (i2 : Int32) (s : c_S) : c_R := c_run d_CT T_Ck_under L_Ck_under 1 C 0 [(0, v_r 32), (1, v_i i1), (2, v_i i2)] [] s
noncomputable def b_Ck_family_0 (C : c_C) (i1 : Int32) (i2 : Int32) (s : c_S) : c_R := c_run d_CT T_Ck_family L_Ck_family 0 C 0 [(0, v_r 32), (1, v_i i1), (2, v_i i2)] [] s
noncomputable def b_Ck_family_18 (C : c_C) (i1 : Int32) (i2 : Int32) (t0 : Int32) (s : c_S) : c_R := c_run d_CT T_Ck_family L_Ck_family 0 C 18 [(0, v_r 32), (1, v_i i1), (2, v_i i2)] [v_i t0] s
noncomputable def b_Ck_family_35 (C : c_C) (i1 : Int32) (i2 : Int32) (i3 : Int32) (t0 : Int32) (s : c_S) : c_R := c_run d_CT T_Ck_family L_Ck_family 0 C 35 [(0, v_r 32), (1, v_i i1), (2, v_i i2), (3, v_i i3)] [v_i t0] s
noncomputable def b_Ck_family_79 (C : c_C) (i1 : Int32) (i2 : Int32) (i4 : Int32) (s : c_S) : c_R := c_run d_CT T_Ck_family L_Ck_family 0 C 79 [(0, v_r 32), (1, v_i i1), (2, v_i i2), (4, v_i i4)] [] s
noncomputable def b_Ck_family_170 (C : c_C) (i1 : Int32) (i2 : Int32) (i4 : Int32) (s : c_S) : c_R := c_run d_CT T_Ck_family L_Ck_family 0 C 170 [(0, v_r 32), (1, v_i i1), (2, v_i i2), (4, v_i i4)] [] s
noncomputable def b_Ck_isFamilyName_0 (C : c_C) (i1 : Int32) (s : c_S) : c_R := c_run d_CT T_Ck_isFamilyName L_Ck_isFamilyName 2 C 0 [(0, v_r 32), (1, v_i i1)] [] s
noncomputable def b_Ck_objectsOfFamily_0 (C : c_C) (i1 : Int32) (i2 : Int32) (i3 : Int32) (s : c_S) : c_R := c_run d_CT T_Ck_objectsOfFamily L_Ck_objectsOfFamily 0 C 0 [(0, v_r 32), (1, v_i i1), (2, v_i i2), (3, v_i i3)] [] s
noncomputable def b_Ck_objectsOfFamily_30 (C : c_C) (i1 : Int32) (i2 : Int32) (i3 : Int32) (i4 : Int32) (i5 : Int32) (i6 : Int32) (s : c_S) : c_R := c_run d_CT T_Ck_objectsOfFamily L_Ck_objectsOfFamily 0 C 30 [(0, v_r 32), (1, v_i i1), (2, v_i i2), (3, v_i i3), (4, v_i i4), (5, v_i i5), (6, v_i i6)] [] s
noncomputable def b_Ck_objectsOfFamily_45 (C : c_C) (i2 : Int32) (i3 : Int32) (i4 : Int32) (i5 : Int32) (i6 : Int32) (i7 : Int32) (i8 : Int32) (s : c_S) : c_R := c_run d_CT T_Ck_objectsOfFamily L_Ck_objectsOfFamily 0 C 45 [(0, v_r 32), (2, v_i i2), (3, v_i i3), (4, v_i i4), (5, v_i i5), (6, v_i i6), (7, v_i i7), (8, v_i i8)] [] s
noncomputable def b_Ck_objectsOfFamily_179 (C : c_C) (i2 : Int32) (i4 : Int32) (s : c_S) : c_R := c_run d_CT T_Ck_objectsOfFamily L_Ck_objectsOfFamily 0 C 179 [(0, v_r 32), (2, v_i i2), (4, v_i i4)] [] s
noncomputable def b_Ck_objectsOfFamily_121 (C : c_C) (i2 : Int32) (i3 : Int32) (i4 : Int32) (i5 : Int32) (i6 : Int32) (i7 : Int32) (i8 : Int32) (s : c_S) : c_R := c_run d_CT T_Ck_objectsOfFamily L_Ck_objectsOfFamily 0 C 121 [(0, v_r 32), (2, v_i i2), (3, v_i i3), (4, v_i i4), (5, v_i i5), (6, v_i i6), (7, v_i i7), (8, v_i i8)] [] s
noncomputable def b_Ck_objectsOfFamily_158 (C : c_C) (i2 : Int32) (i3 : Int32) (i4 : Int32) (i5 : Int32) (i6 : Int32) (i8 : Int32) (i9 : Int32) (s : c_S) : c_R := c_run d_CT T_Ck_objectsOfFamily L_Ck_objectsOfFamily 0 C 158 [(0, v_r 32), (2, v_i i2), (3, v_i i3), (4, v_i i4), (5, v_i i5), (6, v_i i6), (8, v_i i8), (9, v_i i9)] [] s
noncomputable def b_Ck_fitting_0 (C : c_C) (i1 : Int32) (i2 : Int32) (i3 : Int32) (i4 : Int32) (s : c_S) : c_R := c_run d_CT T_Ck_fitting L_Ck_fitting 0 C 0 [(0, v_r 32), (1, v_i i1), (2, v_i i2), (3, v_i i3), (4, v_i i4)] [] s
noncomputable def b_Ck_fitting_47 (C : c_C) (i1 : Int32) (i6 : Int32) (s : c_S) : c_R := c_run d_CT T_Ck_fitting L_Ck_fitting 0 C 47 [(0, v_r 32), (1, v_i i1), (6, v_i i6)] [] s
noncomputable def b_Ck_object_0 (C : c_C) (i1 : Int32) (i2 : Int32) (s : c_S) : c_R := c_run d_CT T_Ck_object L_Ck_object 0 C 0 [(0, v_r 32), (1, v_i i1), (2, v_i i2)] [] s
noncomputable def b_Ck_object_17 (C : c_C) (i3 : Int32) (i4 : Int32) (i5 : Int32) (i6 : Int32) (s : c_S) : c_R := c_run d_CT T_Ck_object L_Ck_object 0 C 17 [(0, v_r 32), (3, v_i i3), (4, v_i i4), (5, v_i i5), (6, v_i i6)] [] s
noncomputable def b_Ck_object_78 (C : c_C) (i3 : Int32) (i4 : Int32) (i5 : Int32) (i6 : Int32) (s : c_S) : c_R := c_run d_CT T_Ck_object L_Ck_object 0 C 78 [(0, v_r 32), (3, v_i i3), (4, v_i i4), (5, v_i i5), (6, v_i i6)] [] s
noncomputable def b_Ck_object_93 (C : c_C) (i3 : Int32) (i4 : Int32) (i5 : Int32) (s : c_S) : c_R := c_run d_CT T_Ck_object L_Ck_object 0 C 93 [(0, v_r 32), (3, v_i i3), (4, v_i i4), (5, v_i i5)] [] s
noncomputable def b_Ck_object_143 (C : c_C) (i5 : Int32) (s : c_S) : c_R := c_run d_CT T_Ck_object L_Ck_object 0 C 143 [(0, v_r 32), (5, v_i i5)] [] s
noncomputable def b_Ck_object_123 (C : c_C) (i3 : Int32) (i5 : Int32) (s : c_S) : c_R := c_run d_CT T_Ck_object L_Ck_object 0 C 123 [(0, v_r 32), (3, v_i i3), (5, v_i i5)] [] s
noncomputable def b_Ck_bareObject_0 (C : c_C) (i1 : Int32) (s : c_S) : c_R := c_run d_CT T_Ck_bareObject L_Ck_bareObject 0 C 0 [(0, v_r 32), (1, v_i i1)] [] s
noncomputable def b_Ck_bareObject_49 (C : c_C) (i1 : Int32) (s : c_S) : c_R := c_run d_CT T_Ck_bareObject L_Ck_bareObject 0 C 49 [(0, v_r 32), (1, v_i i1)] [] s
noncomputable def b_Ck_applied_0 (C : c_C) (i1 : Int32) (i2 : Int32) (s : c_S) : c_R := c_run d_CT T_Ck_applied L_Ck_applied 0 C 0 [(0, v_r 32), (1, v_i i1), (2, v_i i2)] [] s
noncomputable def b_Ck_applied_41 (C : c_C) (i1 : Int32) (i2 : Int32) (i4 : Int32) (s : c_S) : c_R := c_run d_CT T_Ck_applied L_Ck_applied 0 C 41 [(0, v_r 32), (1, v_i i1), (2, v_i i2), (4, v_i i4)] [] s
noncomputable def b_Ck_applied_72 (C : c_C) (i2 : Int32) (i4 : Int32) (i5 : Int32) (i6 : Int32) (i7 : Int32) (s : c_S) : c_R := c_run d_CT T_Ck_applied L_Ck_applied 0 C 72 [(0, v_r 32), (2, v_i i2), (4, v_i i4), (5, v_i i5), (6, v_i i6), (7, v_i i7)] [] s
noncomputable def b_Ck_applied_75 (C : c_C) (i2 : Int32) (i4 : Int32) (i5 : Int32) (i6 : Int32) (i7 : Int32) (i8 : Int32) (s : c_S) : c_R := c_run d_CT T_Ck_applied L_Ck_applied 0 C 75 [(0, v_r 32), (2, v_i i2), (4, v_i i4), (5, v_i i5), (6, v_i i6), (7, v_i i7), (8, v_i i8)] [] s
noncomputable def b_Ck_applied_151 (C : c_C) (i2 : Int32) (i4 : Int32) (i5 : Int32) (i6 : Int32) (i7 : Int32) (i8 : Int32) (s : c_S) : c_R := c_run d_CT T_Ck_applied L_Ck_applied 0 C 151 [(0, v_r 32), (2, v_i i2), (4, v_i i4), (5, v_i i5), (6, v_i i6), (7, v_i i7), (8, v_i i8)] [] s
noncomputable def b_Ck_applied_200 (C : c_C) (i2 : Int32) (i4 : Int32) (i6 : Int32) (i8 : Int32) (i9 : Int32) (s : c_S) : c_R := c_run d_CT T_Ck_applied L_Ck_applied 0 C 200 [(0, v_r 32), (2, v_i i2), (4, v_i i4), (6, v_i i6), (8, v_i i8), (9, v_i i9)] [] s
noncomputable def b_Ju_sameObjects_0 (C : c_C) (i1 : Int32) (i2 : Int32) (s : c_S) : c_R := c_run d_CT T_Ju_sameObjects L_Ju_sameObjects 2 C 0 [(0, v_r 31), (1, v_i i1), (2, v_i i2)] [] s
noncomputable def b_Ju_families_0 (C : c_C) (i1 : Int32) (i2 : Int32) (i3 : Int32) (i4 : Int32) (i5 : Int32) (s : c_S) : c_R := c_run d_CT T_Ju_families L_Ju_families 2 C 0 [(0, v_r 31), (1, v_i i1), (2, v_i i2), (3, v_i i3), (4, v_i i4), (5, v_i i5)] [] s
noncomputable def b_Ju_families_17 (C : c_C) (i6 : Int32) (i7 : Int32) (i8 : Int32) (i9 : Int32) (i10 : Int32) (s : c_S) : c_R := c_run d_CT T_Ju_families L_Ju_families 2 C 17 [(0, v_r 31), (6, v_i i6), (7, v_i i7), (8, v_i i8), (9, v_i i9), (10, v_i i10)] [] s
noncomputable def b_Ju_families_20 (C : c_C) (i6 : Int32) (i7 : Int32) (i8 : Int32) (i9 : Int32) (i10 : Int32) (i11 : Int32) (s : c_S) : c_R := c_run d_CT T_Ju_families L_Ju_families 2 C 20 [(0, v_r 31), (6, v_i i6), (7, v_i i7), (8, v_i i8), (9, v_i i9), (10, v_i i10), (11, v_i i11)] [] s
noncomputable def b_Ju_families_261 (C : c_C) (i6 : Int32) (i7 : Int32) (i8 : Int32) (i9 : Int32) (i10 : Int32) (s : c_S) : c_R := c_run d_CT T_Ju_families L_Ju_families 2 C 261 [(0, v_r 31), (6, v_i i6), (7, v_i i7), (8, v_i i8), (9, v_i i9), (10, v_i i10)] [] s
noncomputable def b_Ju_families_70 (C : c_C) (i6 : Int32) (i7 : Int32) (i8 : Int32) (i9 : Int32) (i10 : Int32) (i11 : Int32) (s : c_S) : c_R := c_run d_CT T_Ju_families L_Ju_families 2 C 70 [(0, v_r 31), (6, v_i i6), (7, v_i i7), (8, v_i i8), (9, v_i i9), (10, v_i i10), (11, v_i i11)] [] s
noncomputable def b_Ju_families_315 (C : c_C) (i6 : Int32) (i7 : Int32) (i8 : Int32) (i9 : Int32) (i10 : Int32) (t0 : Int32) (s : c_S) : c_R := c_run d_CT T_Ju_families L_Ju_families 2 C 315 [(0, v_r 31), (6, v_i i6), (7, v_i i7), (8, v_i i8), (9, v_i i9), (10, v_i i10)] [v_i t0] s
noncomputable def b_Ju_families_111 (C : c_C) (i6 : Int32) (i7 : Int32) (i8 : Int32) (i9 : Int32) (i10 : Int32) (i11 : Int32) (s : c_S) : c_R := c_run d_CT T_Ju_families L_Ju_families 2 C 111 [(0, v_r 31), (6, v_i i6), (7, v_i i7), (8, v_i i8), (9, v_i i9), (10, v_i i10), (11, v_i i11)] [] s
noncomputable def b_Ju_families_377 (C : c_C)  (s : c_S) : c_R := c_run d_CT T_Ju_families L_Ju_families 2 C 377 [] [] s
noncomputable def b_Ju_families_373 (C : c_C)  (s : c_S) : c_R := c_run d_CT T_Ju_families L_Ju_families 2 C 373 [] [] s
noncomputable def b_Ju_families_168 (C : c_C)  (s : c_S) : c_R := c_run d_CT T_Ju_families L_Ju_families 2 C 168 [] [] s
noncomputable def b_Ju_families_170 (C : c_C) (i6 : Int32) (i7 : Int32) (i8 : Int32) (i9 : Int32) (i10 : Int32) (i11 : Int32) (i12 : Int32) (s : c_S) : c_R := c_run d_CT T_Ju_families L_Ju_families 2 C 170 [(0, v_r 31), (6, v_i i6), (7, v_i i7), (8, v_i i8), (9, v_i i9), (10, v_i i10), (11, v_i i11), (12, v_i i12)] [] s
noncomputable def b_Ju_families_226 (C : c_C) (i6 : Int32) (i7 : Int32) (i8 : Int32) (i9 : Int32) (i10 : Int32) (i11 : Int32) (i13 : Int32) (s : c_S) : c_R := c_run d_CT T_Ju_families L_Ju_families 2 C 226 [(0, v_r 31), (6, v_i i6), (7, v_i i7), (8, v_i i8), (9, v_i i9), (10, v_i i10), (11, v_i i11), (13, v_i i13)] [] s
noncomputable def b_Ju_rows_0 (C : c_C) (i1 : Int32) (i2 : Int32) (i3 : Int32) (i4 : Int32) (s : c_S) : c_R := c_run d_CT T_Ju_rows L_Ju_rows 2 C 0 [(0, v_r 31), (1, v_i i1), (2, v_i i2), (3, v_i i3), (4, v_i i4)] [] s
noncomputable def b_Ju_rows_12 (C : c_C) (i4 : Int32) (i5 : Int32) (i6 : Int32) (i7 : Int32) (i8 : Int32) (s : c_S) : c_R := c_run d_CT T_Ju_rows L_Ju_rows 2 C 12 [(0, v_r 31), (4, v_i i4), (5, v_i i5), (6, v_i i6), (7, v_i i7), (8, v_i i8)] [] s
noncomputable def b_Ju_rows_143 (C : c_C) (i6 : Int32) (i7 : Int32) (s : c_S) : c_R := c_run d_CT T_Ju_rows L_Ju_rows 2 C 143 [(0, v_r 31), (6, v_i i6), (7, v_i i7)] [] s
noncomputable def b_Ju_rows_49 (C : c_C) (i4 : Int32) (i5 : Int32) (i6 : Int32) (i7 : Int32) (i8 : Int32) (i9 : Int32) (i10 : Int32) (s : c_S) : c_R := c_run d_CT T_Ju_rows L_Ju_rows 2 C 49 [(0, v_r 31), (4, v_i i4), (5, v_i i5), (6, v_i i6), (7, v_i i7), (8, v_i i8), (9, v_i i9), (10, v_i i10)] [] s
noncomputable def b_Ju_rows_118 (C : c_C) (i4 : Int32) (i5 : Int32) (i8 : Int32) (i10 : Int32) (i11 : Int32) (s : c_S) : c_R := c_run d_CT T_Ju_rows L_Ju_rows 2 C 118 [(0, v_r 31), (4, v_i i4), (5, v_i i5), (8, v_i i8), (10, v_i i10), (11, v_i i11)] [] s
noncomputable def b_Ju_meet_0 (C : c_C) (i1 : Int32) (i2 : Int32) (i3 : Int32) (i4 : Int32) (s : c_S) : c_R := c_run d_CT T_Ju_meet L_Ju_meet 2 C 0 [(0, v_r 31), (1, v_i i1), (2, v_i i2), (3, v_i i3), (4, v_i i4)] [] s
noncomputable def b_Ju_meet_16 (C : c_C) (i2 : Int32) (i3 : Int32) (i5 : Int32) (i6 : Int32) (i7 : Int32) (i8 : Int32) (i9 : Int32) (s : c_S) : c_R := c_run d_CT T_Ju_meet L_Ju_meet 2 C 16 [(0, v_r 31), (2, v_i i2), (3, v_i i3), (5, v_i i5), (6, v_i i6), (7, v_i i7), (8, v_i i8), (9, v_i i9)] [] s
noncomputable def b_Ju_meet_19 (C : c_C) (i2 : Int32) (i3 : Int32) (i5 : Int32) (i6 : Int32) (i7 : Int32) (i8 : Int32) (i9 : Int32) (i10 : Int32) (s : c_S) : c_R := c_run d_CT T_Ju_meet L_Ju_meet 2 C 19 [(0, v_r 31), (2, v_i i2), (3, v_i i3), (5, v_i i5), (6, v_i i6), (7, v_i i7), (8, v_i i8), (9, v_i i9), (10, v_i i10)] [] s
noncomputable def b_Ju_meet_166 (C : c_C) (i2 : Int32) (i3 : Int32) (i7 : Int32) (i8 : Int32) (i9 : Int32) (s : c_S) : c_R := c_run d_CT T_Ju_meet L_Ju_meet 2 C 166 [(0, v_r 31), (2, v_i i2), (3, v_i i3), (7, v_i i7), (8, v_i i8), (9, v_i i9)] [] s
noncomputable def b_Ju_meet_69 (C : c_C) (i2 : Int32) (i3 : Int32) (i5 : Int32) (i6 : Int32) (i7 : Int32) (i8 : Int32) (i9 : Int32) (i10 : Int32) (s : c_S) : c_R := c_run d_CT T_Ju_meet L_Ju_meet 2 C 69 [(0, v_r 31), (2, v_i i2), (3, v_i i3), (5, v_i i5), (6, v_i i6), (7, v_i i7), (8, v_i i8), (9, v_i i9), (10, v_i i10)] [] s
noncomputable def b_Ju_meet_216 (C : c_C) (i3 : Int32) (i7 : Int32) (i9 : Int32) (i10 : Int32) (s : c_S) : c_R := c_run d_CT T_Ju_meet L_Ju_meet 2 C 216 [(0, v_r 31), (3, v_i i3), (7, v_i i7), (9, v_i i9), (10, v_i i10)] [] s
noncomputable def b_Ju_meet_118 (C : c_C) (i2 : Int32) (i3 : Int32) (i5 : Int32) (i6 : Int32) (i7 : Int32) (i8 : Int32) (i9 : Int32) (i10 : Int32) (i11 : Int32) (s : c_S) : c_R := c_run d_CT T_Ju_meet L_Ju_meet 2 C 118 [(0, v_r 31), (2, v_i i2), (3, v_i i3), (5, v_i i5), (6, v_i i6), (7, v_i i7), (8, v_i i8), (9, v_i i9), (10, v_i i10), (11, v_i i11)] [] s
noncomputable def b_Ju_meet_274 (C : c_C) (i10 : Int32) (s : c_S) : c_R := c_run d_CT T_Ju_meet L_Ju_meet 2 C 274 [(0, v_r 31), (10, v_i i10)] [] s
noncomputable def b_Ju_meet_157 (C : c_C) (i2 : Int32) (i3 : Int32) (i5 : Int32) (i6 : Int32) (i7 : Int32) (i8 : Int32) (i9 : Int32) (i10 : Int32) (s : c_S) : c_R := c_run d_CT T_Ju_meet L_Ju_meet 2 C 157 [(0, v_r 31), (2, v_i i2), (3, v_i i3), (5, v_i i5), (6, v_i i6), (7, v_i i7), (8, v_i i8), (9, v_i i9), (10, v_i i10)] [] s
noncomputable def b_Ju_sameLength_0 (C : c_C) (i1 : Int32) (i2 : Int32) (s : c_S) : c_R := c_run d_CT T_Ju_sameLength L_Ju_sameLength 2 C 0 [(0, v_r 31), (1, v_i i1), (2, v_i i2)] [] s
noncomputable def b_Ju_sameLength_8 (C : c_C) (i3 : Int32) (i4 : Int32) (i5 : Int32) (s : c_S) : c_R := c_run d_CT T_Ju_sameLength L_Ju_sameLength 2 C 8 [(0, v_r 31), (3, v_i i3), (4, v_i i4), (5, v_i i5)] [] s
noncomputable def b_Ju_sameLength_44 (C : c_C) (i3 : Int32) (i4 : Int32) (i5 : Int32) (s : c_S) : c_R := c_run d_CT T_Ju_sameLength L_Ju_sameLength 2 C 44 [(0, v_r 31), (3, v_i i3), (4, v_i i4), (5, v_i i5)] [] s
noncomputable def b_Wr_write_0 (C : c_C) (i1 : Int32) (i2 : Int32) (s : c_S) : c_R := c_run d_CT T_Wr_write L_Wr_write 0 C 0 [(0, v_r 33), (1, v_i i1), (2, v_i i2)] [] s
noncomputable def b_Wr_write_51 (C : c_C)  (s : c_S) : c_R := c_run d_CT T_Wr_write L_Wr_write 0 C 51 [(0, v_r 33)] [] s
noncomputable def b_Wr_family_0 (C : c_C) (i1 : Int32) (i2 : Int32) (i3 : Int32) (i4 : Int32) (s : c_S) : c_R := c_run d_CT T_Wr_family L_Wr_family 0 C 0 [(0, v_r 33), (1, v_i i1), (2, v_i i2), (3, v_i i3), (4, v_i i4)] [] s
noncomputable def b_Wr_family_16 (C : c_C) (i5 : Int32) (i6 : Int32) (i7 : Int32) (i8 : Int32) (i9 : Int32) (s : c_S) : c_R := c_run d_CT T_Wr_family L_Wr_family 0 C 16 [(0, v_r 33), (5, v_i i5), (6, v_i i6), (7, v_i i7), (8, v_i i8), (9, v_i i9)] [] s
noncomputable def b_Wr_family_175 (C : c_C) (i5 : Int32) (i6 : Int32) (i7 : Int32) (i8 : Int32) (s : c_S) : c_R := c_run d_CT T_Wr_family L_Wr_family 0 C 175 [(0, v_r 33), (5, v_i i5), (6, v_i i6), (7, v_i i7), (8, v_i i8)] [] s
noncomputable def b_Wr_family_65 (C : c_C) (i5 : Int32) (i6 : Int32) (i7 : Int32) (i8 : Int32) (i9 : Int32) (s : c_S) : c_R := c_run d_CT T_Wr_family L_Wr_family 0 C 65 [(0, v_r 33), (5, v_i i5), (6, v_i i6), (7, v_i i7), (8, v_i i8), (9, v_i i9)] [] s
noncomputable def b_Wr_family_152 (C : c_C) (i5 : Int32) (i6 : Int32) (i7 : Int32) (i8 : Int32) (i9 : Int32) (s : c_S) : c_R := c_run d_CT T_Wr_family L_Wr_family 0 C 152 [(0, v_r 33), (5, v_i i5), (6, v_i i6), (7, v_i i7), (8, v_i i8), (9, v_i i9)] [] s
noncomputable def b_Wr_binding_0 (C : c_C) (i1 : Int32) (i2 : Int32) (i3 : Int32) (i4 : Int32) (s : c_S) : c_R := c_run d_CT T_Wr_binding L_Wr_binding 0 C 0 [(0, v_r 33), (1, v_i i1), (2, v_i i2), (3, v_i i3), (4, v_i i4)] [] s
noncomputable def b_Wr_object_0 (C : c_C) (i1 : Int32) (i2 : Int32) (i3 : Int32) (i4 : Int32) (i5 : Int32) (i6 : Int32) (s : c_S) : c_R := c_run d_CT T_Wr_object L_Wr_object 0 C 0 [(0, v_r 33), (1, v_i i1), (2, v_i i2), (3, v_i i3), (4, v_i i4), (5, v_i i5), (6, v_i i6)] [] s
noncomputable def b_Wr_object_17 (C : c_C) (i3 : Int32) (i5 : Int32) (i6 : Int32) (i7 : Int32) (i8 : Int32) (i9 : Int32) (i10 : Int32) (i11 : Int32) (s : c_S) : c_R := c_run d_CT T_Wr_object L_Wr_object 0 C 17 [(0, v_r 33), (3, v_i i3), (5, v_i i5), (6, v_i i6), (7, v_i i7), (8, v_i i8), (9, v_i i9), (10, v_i i10), (11, v_i i11)] [] s
noncomputable def b_Wr_object_20 (C : c_C) (i3 : Int32) (i5 : Int32) (i6 : Int32) (i7 : Int32) (i8 : Int32) (i9 : Int32) (i10 : Int32) (i11 : Int32) (i12 : Int32) (s : c_S) : c_R := c_run d_CT T_Wr_object L_Wr_object 0 C 20 [(0, v_r 33), (3, v_i i3), (5, v_i i5), (6, v_i i6), (7, v_i i7), (8, v_i i8), (9, v_i i9), (10, v_i i10), (11, v_i i11), (12, v_i i12)] [] s
noncomputable def b_Wr_object_215 (C : c_C) (i3 : Int32) (i5 : Int32) (i6 : Int32) (i9 : Int32) (i10 : Int32) (i11 : Int32) (s : c_S) : c_R := c_run d_CT T_Wr_object L_Wr_object 0 C 215 [(0, v_r 33), (3, v_i i3), (5, v_i i5), (6, v_i i6), (9, v_i i9), (10, v_i i10), (11, v_i i11)] [] s
noncomputable def b_Wr_object_69 (C : c_C) (i3 : Int32) (i5 : Int32) (i6 : Int32) (i7 : Int32) (i8 : Int32) (i9 : Int32) (i10 : Int32) (i11 : Int32) (i12 : Int32) (s : c_S) : c_R := c_run d_CT T_Wr_object L_Wr_object 0 C 69 [(0, v_r 33), (3, v_i i3), (5, v_i i5), (6, v_i i6), (7, v_i i7), (8, v_i i8), (9, v_i i9), (10, v_i i10), (11, v_i i11), (12, v_i i12)] [] s
noncomputable def b_Wr_object_256 (C : c_C) (i6 : Int32) (i9 : Int32) (i10 : Int32) (t0 : Int32) (s : c_S) : c_R := c_run d_CT T_Wr_object L_Wr_object 0 C 256 [(0, v_r 33), (6, v_i i6), (9, v_i i9), (10, v_i i10)] [v_i t0] s
noncomputable def b_Wr_object_103 (C : c_C) (i3 : Int32) (i5 : Int32) (i6 : Int32) (i7 : Int32) (i8 : Int32) (i9 : Int32) (i10 : Int32) (i11 : Int32) (i12 : Int32) (s : c_S) : c_R := c_run d_CT T_Wr_object L_Wr_object 0 C 103 [(0, v_r 33), (3, v_i i3), (5, v_i i5), (6, v_i i6), (7, v_i i7), (8, v_i i8), (9, v_i i9), (10, v_i i10), (11, v_i i11), (12, v_i i12)] [] s
noncomputable def b_Wr_object_283 (C : c_C) (i9 : Int32) (i10 : Int32) (i12 : Int32) (t0 : Int32) (s : c_S) : c_R := c_run d_CT T_Wr_object L_Wr_object 0 C 283 [(0, v_r 33), (9, v_i i9), (10, v_i i10), (12, v_i i12)] [v_i t0] s
noncomputable def b_Wr_object_177 (C : c_C) (i3 : Int32) (i5 : Int32) (i6 : Int32) (i7 : Int32) (i8 : Int32) (i9 : Int32) (i10 : Int32) (i11 : Int32) (i12 : Int32) (i13 : Int32) (s : c_S) : c_R := c_run d_CT T_Wr_object L_Wr_object 0 C 177 [(0, v_r 33), (3, v_i i3), (5, v_i i5), (6, v_i i6), (7, v_i i7), (8, v_i i8), (9, v_i i9), (10, v_i i10), (11, v_i i11), (12, v_i i12), (13, v_i i13)] [] s
noncomputable def b_Wr_object_304 (C : c_C) (i9 : Int32) (i10 : Int32) (i13 : Int32) (s : c_S) : c_R := c_run d_CT T_Wr_object L_Wr_object 0 C 304 [(0, v_r 33), (9, v_i i9), (10, v_i i10), (13, v_i i13)] [] s
noncomputable def b_Wr_object_209 (C : c_C) (i3 : Int32) (i5 : Int32) (i6 : Int32) (i7 : Int32) (i8 : Int32) (i9 : Int32) (i10 : Int32) (i11 : Int32) (i12 : Int32) (s : c_S) : c_R := c_run d_CT T_Wr_object L_Wr_object 0 C 209 [(0, v_r 33), (3, v_i i3), (5, v_i i5), (6, v_i i6), (7, v_i i7), (8, v_i i8), (9, v_i i9), (10, v_i i10), (11, v_i i11), (12, v_i i12)] [] s
noncomputable def b_Wr_putHead_0 (C : c_C) (i1 : Int32) (s : c_S) : c_R := c_run d_CT T_Wr_putHead L_Wr_putHead 0 C 0 [(0, v_r 33), (1, v_i i1)] [] s
noncomputable def b_Wr_objects_0 (C : c_C) (i1 : Int32) (i2 : Int32) (i3 : Int32) (i4 : Int32) (i5 : Int32) (s : c_S) : c_R := c_run d_CT T_Wr_objects L_Wr_objects 0 C 0 [(0, v_r 33), (1, v_i i1), (2, v_i i2), (3, v_i i3), (4, v_i i4), (5, v_i i5)] [] s
noncomputable def b_Wr_objects_12 (C : c_C) (i4 : Int32) (i5 : Int32) (i6 : Int32) (i7 : Int32) (i8 : Int32) (i9 : Int32) (s : c_S) : c_R := c_run d_CT T_Wr_objects L_Wr_objects 0 C 12 [(0, v_r 33), (4, v_i i4), (5, v_i i5), (6, v_i i6), (7, v_i i7), (8, v_i i8), (9, v_i i9)] [] s
noncomputable def b_Wr_objects_54 (C : c_C) (i4 : Int32) (i5 : Int32) (i6 : Int32) (i7 : Int32) (i8 : Int32) (i9 : Int32) (i10 : Int32) (i11 : Int32) (s : c_S) : c_R := c_run d_CT T_Wr_objects L_Wr_objects 0 C 54 [(0, v_r 33), (4, v_i i4), (5, v_i i5), (6, v_i i6), (7, v_i i7), (8, v_i i8), (9, v_i i9), (10, v_i i10), (11, v_i i11)] [] s
noncomputable def b_Wr_objects_120 (C : c_C) (i4 : Int32) (i5 : Int32) (i6 : Int32) (i7 : Int32) (i9 : Int32) (i10 : Int32) (s : c_S) : c_R := c_run d_CT T_Wr_objects L_Wr_objects 0 C 120 [(0, v_r 33), (4, v_i i4), (5, v_i i5), (6, v_i i6), (7, v_i i7), (9, v_i i9), (10, v_i i10)] [] s
noncomputable def b_Wr_putName_0 (C : c_C) (i1 : Int32) (s : c_S) : c_R := c_run d_CT T_Wr_putName L_Wr_putName 0 C 0 [(0, v_r 33), (1, v_i i1)] [] s
noncomputable def b_Wr_putName_2 (C : c_C) (i1 : Int32) (i2 : Int32) (s : c_S) : c_R := c_run d_CT T_Wr_putName L_Wr_putName 0 C 2 [(0, v_r 33), (1, v_i i1), (2, v_i i2)] [] s
noncomputable def b_Wr_putVariable_0 (C : c_C) (i1 : Int32) (s : c_S) : c_R := c_run d_CT T_Wr_putVariable L_Wr_putVariable 0 C 0 [(0, v_r 33), (1, v_i i1)] [] s
noncomputable def b_Wr_putVariable_2 (C : c_C) (i1 : Int32) (i2 : Int32) (s : c_S) : c_R := c_run d_CT T_Wr_putVariable L_Wr_putVariable 0 C 2 [(0, v_r 33), (1, v_i i1), (2, v_i i2)] [] s
noncomputable def b_Wr_putVariable_48 (C : c_C) (i1 : Int32) (s : c_S) : c_R := c_run d_CT T_Wr_putVariable L_Wr_putVariable 0 C 48 [(0, v_r 33), (1, v_i i1)] [] s
set_option maxRecDepth 20000 in
theorem e_Fb_feed_0 (C : c_C) (j1 : Int64) (j3 : Int64) (j5 : Int64) (s : c_S) : b_Fb_feed_0 C j1 j3 j5 s =
  c_bd (C 212 [v_r 1, v_l j1] s) fun s1 _ =>
  c_bd (C 212 [v_r 1, v_l j3] s1) fun s2 _ =>
  c_bd (C 212 [v_r 1, v_l j5] s2) fun s3 _ =>
  c_bd (C 213 [v_r 1] s3) fun s4 x4 =>
  some (s4, x4)
  := (c_blk_eq d_CT T_Fb_feed L_Fb_feed 1 C 400 0 [(0, v_r 0), (1, v_l j1), (3, v_l j3), (5, v_l j5)] [] s).trans rfl
theorem m_Fb_feed (d : Nat) (j1 : Int64) (j3 : Int64) (j5 : Int64) (s : c_S) : c_M (d + 1) 0 [v_r 0, v_l j1, v_l j3, v_l j5] s = b_Fb_feed_0 (c_M d) j1 j3 j5 s := rfl
set_option maxRecDepth 20000 in
theorem e_Fb_declare_0 (C : c_C)  (s : c_S) : b_Fb_declare_0 C  s =
  c_bd (C 11 [v_r 0] s) fun s1 _ =>
  b_Fb_declare_8 C 0 0 s1
  := (c_blk_eq d_CT T_Fb_declare L_Fb_declare 1 C 400 0 [(0, v_r 0)] [] s).trans rfl
set_option maxRecDepth 20000 in
theorem e_Fb_declare_8 (C : c_C) (i1 : Int32) (i2 : Int32) (s : c_S) : b_Fb_declare_8 C i1 i2 s =
  if i2 < 4000 then
    if i1 = 0 then
      c_bd (C 219 [v_r 1] s) fun s1 x1 =>
      if x1 = 0 then
        c_bd (C 168 [v_r 3] s1) fun s2 x2 =>
        c_bd (C 195 [v_r 27] s2) fun s3 x3 =>
        b_Fb_declare_45 C x3 i2 x2 s3
      else
        b_Fb_declare_146 C i1 s1
    else
      b_Fb_declare_146 C i1 s
  else
    b_Fb_declare_146 C i1 s
  := (c_blk_eq d_CT T_Fb_declare L_Fb_declare 1 C 400 8 [(0, v_r 0), (1, v_i i1), (2, v_i i2)] [] s).trans rfl
set_option maxRecDepth 20000 in
theorem e_Fb_declare_45 (C : c_C) (i1 : Int32) (i2 : Int32) (i3 : Int32) (s : c_S) : b_Fb_declare_45 C i1 i2 i3 s =
  if i1 = 0 then
    c_bd (C 193 [v_r 27] s) fun s1 x1 =>
    c_bd (C 194 [v_r 27] s1) fun s2 x2 =>
    c_bd (C 117 [v_r 32, v_i x1, v_i x2] s2) fun s3 x3 =>
    b_Fb_declare_71 C x3 i2 i3 s3
  else
    b_Fb_declare_71 C i1 i2 i3 s
  := (c_blk_eq d_CT T_Fb_declare L_Fb_declare 1 C 400 45 [(0, v_r 0), (1, v_i i1), (2, v_i i2), (3, v_i i3)] [] s).trans rfl
set_option maxRecDepth 20000 in
theorem e_Fb_declare_146 (C : c_C) (i1 : Int32) (s : c_S) : b_Fb_declare_146 C i1 s =
  c_bd (C 214 [v_r 1] s) fun s1 _ =>
  some (s1, i1)
  := (c_blk_eq d_CT T_Fb_declare L_Fb_declare 1 C 400 146 [(0, v_r 0), (1, v_i i1)] [] s).trans rfl
set_option maxRecDepth 20000 in
theorem e_Fb_declare_71 (C : c_C) (i1 : Int32) (i2 : Int32) (i3 : Int32) (s : c_S) : b_Fb_declare_71 C i1 i2 i3 s =
  if i1 = 0 then
    c_bd (C 191 [v_r 27] s) fun s1 x1 =>
    c_bd (C 192 [v_r 27] s1) fun s2 x2 =>
    c_bd (C 138 [v_r 11, v_r 1, v_i x1, v_i x2] s2) fun s3 _ =>
    c_bd (C 116 [v_r 32] s3) fun s4 x4 =>
    c_bd (C 193 [v_r 27] s4) fun s5 x5 =>
    c_bd (C 194 [v_r 27] s5) fun s6 x6 =>
    c_bd (C 139 [v_r 11, v_i x4, v_i x5, v_i x6, v_i i3] s6) fun s7 _ =>
    b_Fb_declare_8 C i1 (i2 + 1) s7
  else
    c_bd (C 169 [v_r 3, v_i i3] s) fun s8 _ =>
    b_Fb_declare_8 C i1 (i2 + 1) s8
  := (c_blk_eq d_CT T_Fb_declare L_Fb_declare 1 C 400 71 [(0, v_r 0), (1, v_i i1), (2, v_i i2), (3, v_i i3)] [] s).trans rfl
theorem m_Fb_declare (d : Nat)  (s : c_S) : c_M (d + 1) 1 [v_r 0] s = b_Fb_declare_0 (c_M d)  s := rfl
set_option maxRecDepth 20000 in
theorem e_Fb_canon_0 (C : c_C)  (s : c_S) : b_Fb_canon_0 C  s =
  c_bd (C 12 [v_r 0, v_i 0] s) fun s1 x1 =>
  some (s1, x1)
  := (c_blk_eq d_CT T_Fb_canon L_Fb_canon 1 C 400 0 [(0, v_r 0)] [] s).trans rfl
theorem m_Fb_canon (d : Nat)  (s : c_S) : c_M (d + 1) 2 [v_r 0] s = b_Fb_canon_0 (c_M d)  s := rfl
set_option maxRecDepth 20000 in
theorem e_Fb_type_0 (C : c_C)  (s : c_S) : b_Fb_type_0 C  s =
  c_bd (C 12 [v_r 0, v_i 1] s) fun s1 x1 =>
  some (s1, x1)
  := (c_blk_eq d_CT T_Fb_type L_Fb_type 1 C 400 0 [(0, v_r 0)] [] s).trans rfl
theorem m_Fb_type (d : Nat)  (s : c_S) : c_M (d + 1) 3 [v_r 0] s = b_Fb_type_0 (c_M d)  s := rfl
set_option maxRecDepth 20000 in
theorem e_Fb_equal_0 (C : c_C)  (s : c_S) : b_Fb_equal_0 C  s =
  c_bd (C 168 [v_r 3] s) fun s1 x1 =>
  c_bd (C 11 [v_r 0] s1) fun s2 _ =>
  c_bd (C 196 [v_r 27, v_i 59] s2) fun s3 x3 =>
  c_bd (C 196 [v_r 27, v_i 0] s3) fun s4 x4 =>
  b_Fb_equal_31 C x1 x3 x4 s4
  := (c_blk_eq d_CT T_Fb_equal L_Fb_equal 1 C 400 0 [(0, v_r 0)] [] s).trans rfl
set_option maxRecDepth 20000 in
theorem e_Fb_equal_31 (C : c_C) (i1 : Int32) (i2 : Int32) (i3 : Int32) (s : c_S) : b_Fb_equal_31 C i1 i2 i3 s =
  c_bd (C 190 [v_r 27] s) fun s1 x1 =>
  if x1 = 0 then
    c_bd (C 118 [v_r 32, v_i i2] s1) fun s2 x2 =>
    b_Fb_equal_55 C i1 i2 i3 x2 s2
  else
    b_Fb_equal_55 C i1 i2 i3 x1 s1
  := (c_blk_eq d_CT T_Fb_equal L_Fb_equal 1 C 400 31 [(0, v_r 0), (1, v_i i1), (2, v_i i2), (3, v_i i3)] [] s).trans rfl
set_option maxRecDepth 20000 in
theorem e_Fb_equal_55 (C : c_C) (i1 : Int32) (i2 : Int32) (i3 : Int32) (i4 : Int32) (s : c_S) : b_Fb_equal_55 C i1 i2 i3 i4 s =
  if i4 = 0 then
    c_bd (C 118 [v_r 32, v_i i3] s) fun s1 x1 =>
    b_Fb_equal_70 C i1 i2 i3 x1 s1
  else
    b_Fb_equal_70 C i1 i2 i3 i4 s
  := (c_blk_eq d_CT T_Fb_equal L_Fb_equal 1 C 400 55 [(0, v_r 0), (1, v_i i1), (2, v_i i2), (3, v_i i3), (4, v_i i4)] [] s).trans rfl
set_option maxRecDepth 20000 in
theorem e_Fb_equal_70 (C : c_C) (i1 : Int32) (i2 : Int32) (i3 : Int32) (i4 : Int32) (s : c_S) : b_Fb_equal_70 C i1 i2 i3 i4 s =
  if i4 = 0 then
    c_bd (C 13 [v_r 0, v_i i2, v_i i3] s) fun s1 x1 =>
    b_Fb_equal_88 C i1 x1 s1
  else
    b_Fb_equal_88 C i1 (((-1) : Int32) - i4) s
  := (c_blk_eq d_CT T_Fb_equal L_Fb_equal 1 C 400 70 [(0, v_r 0), (1, v_i i1), (2, v_i i2), (3, v_i i3), (4, v_i i4)] [] s).trans rfl
set_option maxRecDepth 20000 in
theorem e_Fb_equal_88 (C : c_C) (i1 : Int32) (t0 : Int32) (s : c_S) : b_Fb_equal_88 C i1 t0 s =
  c_bd (C 169 [v_r 3, v_i i1] s) fun s1 _ =>
  c_bd (C 214 [v_r 1] s1) fun s2 _ =>
  some (s2, t0)
  := (c_blk_eq d_CT T_Fb_equal L_Fb_equal 1 C 400 88 [(0, v_r 0), (1, v_i i1)] [v_i t0] s).trans rfl
theorem m_Fb_equal (d : Nat)  (s : c_S) : c_M (d + 1) 4 [v_r 0] s = b_Fb_equal_0 (c_M d)  s := rfl
set_option maxRecDepth 20000 in
theorem e_Fb_named_0 (C : c_C)  (s : c_S) : b_Fb_named_0 C  s =
  c_bd (C 220 [v_r 1] s) fun s1 _ =>
  c_bd (C 216 [v_r 1] s1) fun s2 x2 =>
  if x2 = 1 then
    c_bd (C 217 [v_r 1] s2) fun s3 x3 =>
    c_bd (C 218 [v_r 1] s3) fun s4 x4 =>
    c_bd (C 141 [v_r 11, v_r 1, v_i x3, v_i x4] s4) fun s5 x5 =>
    b_Fb_named_46 C x5 s5
  else
    b_Fb_named_69 C ((-1)) s2
  := (c_blk_eq d_CT T_Fb_named L_Fb_named 1 C 400 0 [(0, v_r 0)] [] s).trans rfl
set_option maxRecDepth 20000 in
theorem e_Fb_named_46 (C : c_C) (i2 : Int32) (s : c_S) : b_Fb_named_46 C i2 s =
  c_bd (C 221 [v_r 1] s) fun s1 _ =>
  c_bd (C 219 [v_r 1] s1) fun s2 x2 =>
  if x2 = 0 then
    b_Fb_named_69 C ((-1)) s2
  else
    b_Fb_named_69 C i2 s2
  := (c_blk_eq d_CT T_Fb_named L_Fb_named 1 C 400 46 [(0, v_r 0), (2, v_i i2)] [] s).trans rfl
set_option maxRecDepth 20000 in
theorem e_Fb_named_69 (C : c_C) (i1 : Int32) (s : c_S) : b_Fb_named_69 C i1 s =
  c_bd (C 214 [v_r 1] s) fun s1 _ =>
  some (s1, i1)
  := (c_blk_eq d_CT T_Fb_named L_Fb_named 1 C 400 69 [(0, v_r 0), (1, v_i i1)] [] s).trans rfl
theorem m_Fb_named (d : Nat)  (s : c_S) : c_M (d + 1) 5 [v_r 0] s = b_Fb_named_0 (c_M d)  s := rfl
set_option maxRecDepth 20000 in
theorem e_Fb_constant_0 (C : c_C) (i1 : Int32) (i2 : Int32) (s : c_S) : b_Fb_constant_0 C i1 i2 s =
  if i1 < 0 then
    some (s, (-1))
  else
    c_bd (C 130 [v_r 11] s) fun s1 x1 =>
    if i1 < x1 then
      if i2 = 0 then
        c_bd (C 132 [v_r 11, v_i i1] s1) fun s2 x2 =>
        some (s2, x2)
      else
        if i2 = 1 then
          c_bd (C 135 [v_r 11, v_i i1] s1) fun s3 x3 =>
          some (s3, x3)
        else
          some (s1, (-1))
    else
      some (s1, (-1))
  := (c_blk_eq d_CT T_Fb_constant L_Fb_constant 1 C 400 0 [(0, v_r 0), (1, v_i i1), (2, v_i i2)] [] s).trans rfl
theorem m_Fb_constant (d : Nat) (i1 : Int32) (i2 : Int32) (s : c_S) : c_M (d + 1) 6 [v_r 0, v_i i1, v_i i2] s = b_Fb_constant_0 (c_M d) i1 i2 s := rfl
set_option maxRecDepth 20000 in
theorem e_Fb_size_0 (C : c_C)  (s : c_S) : b_Fb_size_0 C  s =
  c_bd (C 184 [v_r 24] s) fun s1 x1 =>
  some (s1, x1)
  := (c_blk_eq d_CT T_Fb_size L_Fb_size 1 C 400 0 [(0, v_r 0)] [] s).trans rfl
theorem m_Fb_size (d : Nat)  (s : c_S) : c_M (d + 1) 7 [v_r 0] s = b_Fb_size_0 (c_M d)  s := rfl
set_option maxRecDepth 20000 in
theorem e_Fb_out_0 (C : c_C) (i1 : Int32) (s : c_S) : b_Fb_out_0 C i1 s =
  c_bd (C 185 [v_r 24, v_i i1] s) fun s1 x1 =>
  some (s1, x1)
  := (c_blk_eq d_CT T_Fb_out L_Fb_out 1 C 400 0 [(0, v_r 0), (1, v_i i1)] [] s).trans rfl
theorem m_Fb_out (d : Nat) (i1 : Int32) (s : c_S) : c_M (d + 1) 8 [v_r 0, v_i i1] s = b_Fb_out_0 (c_M d) i1 s := rfl
set_option maxRecDepth 20000 in
theorem e_Fb_forget_0 (C : c_C) (i1 : Int32) (s : c_S) : b_Fb_forget_0 C i1 s =
  if i1 < 0 then
    some (s, (-1))
  else
    c_bd (C 130 [v_r 11] s) fun s1 x1 =>
    if x1 < i1 then
      some (s1, (-1))
    else
      c_bd (C 140 [v_r 11, v_i i1] s1) fun s2 _ =>
      c_bd (C 130 [v_r 11] s2) fun s3 x3 =>
      some (s3, x3)
  := (c_blk_eq d_CT T_Fb_forget L_Fb_forget 1 C 400 0 [(0, v_r 0), (1, v_i i1)] [] s).trans rfl
theorem m_Fb_forget (d : Nat) (i1 : Int32) (s : c_S) : c_M (d + 1) 9 [v_r 0, v_i i1] s = b_Fb_forget_0 (c_M d) i1 s := rfl
set_option maxRecDepth 20000 in
theorem e_Fb_count_0 (C : c_C) (i1 : Int32) (s : c_S) : b_Fb_count_0 C i1 s =
  if i1 = 0 then
    c_bd (C 130 [v_r 11] s) fun s1 x1 =>
    some (s1, x1)
  else
  if i1 = 1 then
    c_bd (C 162 [v_r 18] s) fun s2 x2 =>
    some (s2, x2)
  else
  if i1 = 2 then
    c_bd (C 163 [v_r 18] s) fun s3 x3 =>
    some (s3, x3)
  else
  if i1 = 3 then
    c_bd (C 213 [v_r 1] s) fun s4 x4 =>
    some (s4, x4)
  else
  some (s, (-1))
  := (c_blk_eq d_CT T_Fb_count L_Fb_count 1 C 400 0 [(0, v_r 0), (1, v_i i1)] [] s).trans rfl
theorem m_Fb_count (d : Nat) (i1 : Int32) (s : c_S) : c_M (d + 1) 10 [v_r 0, v_i i1] s = b_Fb_count_0 (c_M d) i1 s := rfl
set_option maxRecDepth 20000 in
theorem e_Fb_begin_0 (C : c_C)  (s : c_S) : b_Fb_begin_0 C  s =
  c_bd (C 161 [v_r 18] s) fun s1 _ =>
  c_bd (C 103 [v_r 19, v_i 1] s1) fun s2 _ =>
  c_bd (C 189 [v_r 27] s2) fun s3 _ =>
  some (s3, 0)
  := (c_blk_eq d_CT T_Fb_begin L_Fb_begin 0 C 400 0 [(0, v_r 0)] [] s).trans rfl
theorem m_Fb_begin (d : Nat)  (s : c_S) : c_M (d + 1) 11 [v_r 0] s = b_Fb_begin_0 (c_M d)  s := rfl
set_option maxRecDepth 20000 in
theorem e_Fb_writtenForm_0 (C : c_C) (i1 : Int32) (s : c_S) : b_Fb_writtenForm_0 C i1 s =
  c_bd (C 168 [v_r 3] s) fun s1 x1 =>
  c_bd (C 11 [v_r 0] s1) fun s2 _ =>
  c_bd (C 196 [v_r 27, v_i 0] s2) fun s3 x3 =>
  c_bd (C 190 [v_r 27] s3) fun s4 x4 =>
  b_Fb_writtenForm_30 C i1 x1 x3 x4 s4
  := (c_blk_eq d_CT T_Fb_writtenForm L_Fb_writtenForm 1 C 400 0 [(0, v_r 0), (1, v_i i1)] [] s).trans rfl
set_option maxRecDepth 20000 in
theorem e_Fb_writtenForm_30 (C : c_C) (i1 : Int32) (i2 : Int32) (i3 : Int32) (i4 : Int32) (s : c_S) : b_Fb_writtenForm_30 C i1 i2 i3 i4 s =
  if i4 = 0 then
    c_bd (C 118 [v_r 32, v_i i3] s) fun s1 x1 =>
    b_Fb_writtenForm_45 C i1 i2 i3 x1 s1
  else
    b_Fb_writtenForm_45 C i1 i2 i3 i4 s
  := (c_blk_eq d_CT T_Fb_writtenForm L_Fb_writtenForm 1 C 400 30 [(0, v_r 0), (1, v_i i1), (2, v_i i2), (3, v_i i3), (4, v_i i4)] [] s).trans rfl
set_option maxRecDepth 20000 in
theorem e_Fb_writtenForm_45 (C : c_C) (i1 : Int32) (i2 : Int32) (i3 : Int32) (i4 : Int32) (s : c_S) : b_Fb_writtenForm_45 C i1 i2 i3 i4 s =
  if i4 = 0 then
    c_bd (C 226 [v_r 33, v_i i3, v_i i1] s) fun s1 _ =>
    c_bd (C 14 [v_r 0] s1) fun s2 x2 =>
    b_Fb_writtenForm_65 C i2 x2 s2
  else
    b_Fb_writtenForm_65 C i2 i4 s
  := (c_blk_eq d_CT T_Fb_writtenForm L_Fb_writtenForm 1 C 400 45 [(0, v_r 0), (1, v_i i1), (2, v_i i2), (3, v_i i3), (4, v_i i4)] [] s).trans rfl
set_option maxRecDepth 20000 in
theorem e_Fb_writtenForm_65 (C : c_C) (i2 : Int32) (i4 : Int32) (s : c_S) : b_Fb_writtenForm_65 C i2 i4 s =
  c_bd (C 169 [v_r 3, v_i i2] s) fun s1 _ =>
  c_bd (C 214 [v_r 1] s1) fun s2 _ =>
  some (s2, i4)
  := (c_blk_eq d_CT T_Fb_writtenForm L_Fb_writtenForm 1 C 400 65 [(0, v_r 0), (2, v_i i2), (4, v_i i4)] [] s).trans rfl
theorem m_Fb_writtenForm (d : Nat) (i1 : Int32) (s : c_S) : c_M (d + 1) 12 [v_r 0, v_i i1] s = b_Fb_writtenForm_0 (c_M d) i1 s := rfl
set_option maxRecDepth 20000 in
theorem e_Fb_comparison_0 (C : c_C) (i1 : Int32) (i2 : Int32) (s : c_S) : b_Fb_comparison_0 C i1 i2 s =
  c_bd (C 147 [v_r 31, v_i i1, v_i 0, v_i i2, v_i 0, v_i 1] s) fun s1 x1 =>
  if x1 = 0 then
    b_Fb_comparison_34 C x1 0 s1
  else
    c_bd (C 146 [v_r 31, v_i i1, v_i i2] s1) fun s2 x2 =>
    if x2 = 0 then
      b_Fb_comparison_34 C x1 0 s2
    else
      b_Fb_comparison_34 C x1 1 s2
  := (c_blk_eq d_CT T_Fb_comparison L_Fb_comparison 1 C 400 0 [(0, v_r 0), (1, v_i i1), (2, v_i i2)] [] s).trans rfl
set_option maxRecDepth 20000 in
theorem e_Fb_comparison_34 (C : c_C) (i3 : Int32) (t0 : Int32) (s : c_S) : b_Fb_comparison_34 C i3 t0 s =
  c_bd (C 164 [v_r 18] s) fun s1 x1 =>
  if x1 = 0 then
    if i3 = 0 then
      some (s1, (-2))
    else
      if t0 = 0 then
        some (s1, 0)
      else
        some (s1, 1)
  else
    c_bd (C 14 [v_r 0] s1) fun s2 x2 =>
    some (s2, ((-1) : Int32) - x2)
  := (c_blk_eq d_CT T_Fb_comparison L_Fb_comparison 1 C 400 34 [(0, v_r 0), (3, v_i i3)] [v_i t0] s).trans rfl
theorem m_Fb_comparison (d : Nat) (i1 : Int32) (i2 : Int32) (s : c_S) : c_M (d + 1) 13 [v_r 0, v_i i1, v_i i2] s = b_Fb_comparison_0 (c_M d) i1 i2 s := rfl
set_option maxRecDepth 20000 in
theorem e_Fb_troubleAtEnd_0 (C : c_C)  (s : c_S) : b_Fb_troubleAtEnd_0 C  s =
  c_bd (C 164 [v_r 18] s) fun s1 x1 =>
  if x1 = 0 then
    some (s1, 0)
  else
    c_bd (C 164 [v_r 18] s1) fun s2 x2 =>
    c_bd (C 213 [v_r 1] s2) fun s3 x3 =>
    c_bd (C 15 [v_i x2, v_i x3] s3) fun s4 x4 =>
    some (s4, x4)
  := (c_blk_eq d_CT T_Fb_troubleAtEnd L_Fb_troubleAtEnd 1 C 400 0 [(0, v_r 0)] [] s).trans rfl
theorem m_Fb_troubleAtEnd (d : Nat)  (s : c_S) : c_M (d + 1) 14 [v_r 0] s = b_Fb_troubleAtEnd_0 (c_M d)  s := rfl
set_option maxRecDepth 20000 in
theorem e_Fb_faultAt_0 (C : c_C) (i0 : Int32) (i1 : Int32) (s : c_S) : b_Fb_faultAt_0 C i0 i1 s =
  some (s, i0 + ((16 : Int32) * i1))
  := (c_blk_eq d_CT T_Fb_faultAt L_Fb_faultAt 1 C 400 0 [(0, v_i i0), (1, v_i i1)] [] s).trans rfl
theorem m_Fb_faultAt (d : Nat) (i0 : Int32) (i1 : Int32) (s : c_S) : c_M (d + 1) 15 [v_i i0, v_i i1] s = b_Fb_faultAt_0 (c_M d) i0 i1 s := rfl
set_option maxRecDepth 20000 in
theorem e_Fb_isLetter_0 (C : c_C) (i0 : Int32) (s : c_S) : b_Fb_isLetter_0 C i0 s =
  if i0 < 97 then
    if i0 < 65 then
      some (s, 0)
    else
      if (90 : Int32) < i0 then
        some (s, 0)
      else
        some (s, 1)
  else
    if (122 : Int32) < i0 then
      if i0 < 65 then
        some (s, 0)
      else
        if (90 : Int32) < i0 then
          some (s, 0)
        else
          some (s, 1)
    else
      some (s, 1)
  := (c_blk_eq d_CT T_Fb_isLetter L_Fb_isLetter 2 C 400 0 [(0, v_i i0)] [] s).trans rfl
theorem m_Fb_isLetter (d : Nat) (i0 : Int32) (s : c_S) : c_M (d + 1) 16 [v_i i0] s = b_Fb_isLetter_0 (c_M d) i0 s := rfl
set_option maxRecDepth 20000 in
theorem e_Fb_isDigit_0 (C : c_C) (i0 : Int32) (s : c_S) : b_Fb_isDigit_0 C i0 s =
  if i0 < 48 then
    some (s, 0)
  else
    if (57 : Int32) < i0 then
      some (s, 0)
    else
      some (s, 1)
  := (c_blk_eq d_CT T_Fb_isDigit L_Fb_isDigit 2 C 400 0 [(0, v_i i0)] [] s).trans rfl
theorem m_Fb_isDigit (d : Nat) (i0 : Int32) (s : c_S) : c_M (d + 1) 17 [v_i i0] s = b_Fb_isDigit_0 (c_M d) i0 s := rfl
set_option maxRecDepth 20000 in
theorem e_Ck_sort_0 (C : c_C)  (s : c_S) : b_Ck_sort_0 C  s =
  some (s, s.1 32 7)
  := (c_blk_eq d_CT T_Ck_sort L_Ck_sort 1 C 400 0 [(0, v_r 32)] [] s).trans rfl
theorem m_Ck_sort (d : Nat)  (s : c_S) : c_M (d + 1) 116 [v_r 32] s = b_Ck_sort_0 (c_M d)  s := rfl
set_option maxRecDepth 20000 in
theorem e_Ck_faultOfDeclaration_0 (C : c_C) (i1 : Int32) (i2 : Int32) (s : c_S) : b_Ck_faultOfDeclaration_0 C i1 i2 s =
  if i2 = 0 then
    b_Ck_faultOfDeclaration_17 C i1 i2 1 0 i1 (c_put s 32 6 0)
  else
    b_Ck_faultOfDeclaration_17 C i1 i2 0 0 i1 (c_put s 32 6 0)
  := (c_blk_eq d_CT T_Ck_faultOfDeclaration L_Ck_faultOfDeclaration 1 C 400 0 [(0, v_r 32), (1, v_i i1), (2, v_i i2)] [] s).trans rfl
set_option maxRecDepth 20000 in
theorem e_Ck_faultOfDeclaration_17 (C : c_C) (i1 : Int32) (i2 : Int32) (t0 : Int32) (t1 : Int32) (t2 : Int32) (s : c_S) : b_Ck_faultOfDeclaration_17 C i1 i2 t0 t1 t2 s =
  c_bd (C 121 [v_r 32, v_i t2, v_i t1, v_i t0] s) fun s1 x1 =>
  if i2 = 0 then
    if x1 = 0 then
      some ((c_put s1 32 7 1), s1.1 32 6)
    else
      some ((c_put s1 32 7 0), s1.1 32 6)
  else
    c_bd (C 126 [v_r 32, v_i i2, v_i 0, v_i i1, v_i 0] (c_put s1 32 7 2)) fun s2 _ =>
    some (s2, s2.1 32 6)
  := (c_blk_eq d_CT T_Ck_faultOfDeclaration L_Ck_faultOfDeclaration 1 C 400 17 [(0, v_r 32), (1, v_i i1), (2, v_i i2)] [v_i t0, v_i t1, v_i t2, v_r 32] s).trans rfl
theorem m_Ck_faultOfDeclaration (d : Nat) (i1 : Int32) (i2 : Int32) (s : c_S) : c_M (d + 1) 117 [v_r 32, v_i i1, v_i i2] s = b_Ck_faultOfDeclaration_0 (c_M d) i1 i2 s := rfl
set_option maxRecDepth 20000 in
theorem e_Ck_faultOfObject_0 (C : c_C) (i1 : Int32) (s : c_S) : b_Ck_faultOfObject_0 C i1 s =
  c_bd (C 127 [v_r 32, v_i i1, v_i 0] (c_put s 32 6 0)) fun s1 _ =>
  some (s1, s1.1 32 6)
  := (c_blk_eq d_CT T_Ck_faultOfObject L_Ck_faultOfObject 1 C 400 0 [(0, v_r 32), (1, v_i i1)] [] s).trans rfl
theorem m_Ck_faultOfObject (d : Nat) (i1 : Int32) (s : c_S) : c_M (d + 1) 118 [v_r 32, v_i i1] s = b_Ck_faultOfObject_0 (c_M d) i1 s := rfl
set_option maxRecDepth 20000 in
theorem e_Ck_wrong_0 (C : c_C) (i1 : Int32) (i2 : Int32) (s : c_S) : b_Ck_wrong_0 C i1 i2 s =
  if s.1 32 6 = 0 then
    c_bd (C 15 [v_i i1, v_i i2] s) fun s1 x1 =>
    some ((c_put s1 32 6 x1), 0)
  else
    some (s, 0)
  := (c_blk_eq d_CT T_Ck_wrong L_Ck_wrong 0 C 400 0 [(0, v_r 32), (1, v_i i1), (2, v_i i2)] [] s).trans rfl
theorem m_Ck_wrong (d : Nat) (i1 : Int32) (i2 : Int32) (s : c_S) : c_M (d + 1) 119 [v_r 32, v_i i1, v_i i2] s = b_Ck_wrong_0 (c_M d) i1 i2 s := rfl
set_option maxRecDepth 20000 in
theorem e_Ck_step_0 (C : c_C) (i1 : Int32) (s : c_S) : b_Ck_step_0 C i1 s =
  if s.1 32 6 = 0 then
    c_bd (C 166 [v_r 18] s) fun s1 x1 =>
    if x1 = 0 then
      c_bd (C 164 [v_r 18] s1) fun s2 x2 =>
      c_bd (C 119 [v_r 32, v_i x2, v_i i1] s2) fun s3 _ =>
      if s3.1 32 6 = 0 then
        some (s3, 1)
      else
        some (s3, 0)
    else
      if s1.1 32 6 = 0 then
        some (s1, 1)
      else
        some (s1, 0)
  else
    some (s, 0)
  := (c_blk_eq d_CT T_Ck_step L_Ck_step 2 C 400 0 [(0, v_r 32), (1, v_i i1)] [] s).trans rfl
theorem m_Ck_step (d : Nat) (i1 : Int32) (s : c_S) : c_M (d + 1) 120 [v_r 32, v_i i1] s = b_Ck_step_0 (c_M d) i1 s := rfl
set_option maxRecDepth 20000 in
theorem e_Ck_classifier_0 (C : c_C) (i1 : Int32) (i2 : Int32) (i3 : Int32) (s : c_S) : b_Ck_classifier_0 C i1 i2 i3 s =
  c_bd (C 102 [v_r 19] s) fun s1 x1 =>
  b_Ck_classifier_18 C i3 i1 i2 x1 0 s1
  := (c_blk_eq d_CT T_Ck_classifier L_Ck_classifier 2 C 400 0 [(0, v_r 32), (1, v_i i1), (2, v_i i2), (3, v_i i3)] [] s).trans rfl
set_option maxRecDepth 20000 in
theorem e_Ck_classifier_18 (C : c_C) (i3 : Int32) (i4 : Int32) (i5 : Int32) (i6 : Int32) (i7 : Int32) (s : c_S) : b_Ck_classifier_18 C i3 i4 i5 i6 i7 s =
  if i7 < 12800 then
    c_bd (C 172 [v_r 3, v_i i4] s) fun s1 x1 =>
    if x1 = 2 then
      c_bd (C 176 [v_r 3, v_i i4] s1) fun s2 x2 =>
      c_bd (C 120 [v_r 32, v_i x2] s2) fun s3 x3 =>
      if x3 = 0 then
        some (s3, 0)
      else
        c_bd (C 173 [v_r 3, v_i i4] s3) fun s4 x4 =>
        c_bd (C 121 [v_r 32, v_i x4, v_i i5, v_i 0] s4) fun s5 x5 =>
        c_bd (C 122 [v_r 32, v_i i4, v_i i5] s5) fun s6 x6 =>
        b_Ck_classifier_84 C i3 i4 x6 i6 i7 s6
    else
      b_Ck_classifier_101 C i3 i4 i5 i6 s1
  else
    b_Ck_classifier_101 C i3 i4 i5 i6 s
  := (c_blk_eq d_CT T_Ck_classifier L_Ck_classifier 2 C 400 18 [(0, v_r 32), (3, v_i i3), (4, v_i i4), (5, v_i i5), (6, v_i i6), (7, v_i i7)] [] s).trans rfl
set_option maxRecDepth 20000 in
theorem e_Ck_classifier_84 (C : c_C) (i3 : Int32) (i4 : Int32) (i5 : Int32) (i6 : Int32) (i7 : Int32) (s : c_S) : b_Ck_classifier_84 C i3 i4 i5 i6 i7 s =
  c_bd (C 174 [v_r 3, v_i i4] s) fun s1 x1 =>
  b_Ck_classifier_18 C i3 x1 i5 i6 (i7 + 1) s1
  := (c_blk_eq d_CT T_Ck_classifier L_Ck_classifier 2 C 400 84 [(0, v_r 32), (3, v_i i3), (4, v_i i4), (5, v_i i5), (6, v_i i6), (7, v_i i7)] [] s).trans rfl
set_option maxRecDepth 20000 in
theorem e_Ck_classifier_101 (C : c_C) (i3 : Int32) (i4 : Int32) (i5 : Int32) (i6 : Int32) (s : c_S) : b_Ck_classifier_101 C i3 i4 i5 i6 s =
  c_bd (C 172 [v_r 3, v_i i4] s) fun s1 x1 =>
  if x1 = 1 then
    if i3 = 0 then
      b_Ck_classifier_123 C i4 i5 i6 0 s1
    else
      b_Ck_classifier_123 C i4 i5 i6 1 s1
  else
    b_Ck_classifier_123 C i4 i5 i6 0 s1
  := (c_blk_eq d_CT T_Ck_classifier L_Ck_classifier 2 C 400 101 [(0, v_r 32), (3, v_i i3), (4, v_i i4), (5, v_i i5), (6, v_i i6)] [] s).trans rfl
set_option maxRecDepth 20000 in
theorem e_Ck_classifier_123 (C : c_C) (i4 : Int32) (i5 : Int32) (i6 : Int32) (t0 : Int32) (s : c_S) : b_Ck_classifier_123 C i4 i5 i6 t0 s =
  if t0 = 0 then
    c_bd (C 123 [v_r 32, v_i i4, v_i i5] s) fun s1 _ =>
    b_Ck_classifier_155 C i6 t0 s1
  else
    c_bd (C 176 [v_r 3, v_i i4] s) fun s2 x2 =>
    c_bd (C 120 [v_r 32, v_i x2] s2) fun s3 x3 =>
    b_Ck_classifier_155 C i6 t0 s3
  := (c_blk_eq d_CT T_Ck_classifier L_Ck_classifier 2 C 400 123 [(0, v_r 32), (4, v_i i4), (5, v_i i5), (6, v_i i6)] [v_i t0] s).trans rfl
set_option maxRecDepth 20000 in
theorem e_Ck_classifier_155 (C : c_C) (i6 : Int32) (i7 : Int32) (s : c_S) : b_Ck_classifier_155 C i6 i7 s =
  c_bd (C 103 [v_r 19, v_i i6] s) fun s1 _ =>
  if c_bz i7 = true then some (s1, i7) else none
  := (c_blk_eq d_CT T_Ck_classifier L_Ck_classifier 2 C 400 155 [(0, v_r 32), (6, v_i i6), (7, v_i i7)] [] s).trans rfl
theorem m_Ck_classifier (d : Nat) (i1 : Int32) (i2 : Int32) (i3 : Int32) (s : c_S) : c_M (d + 1) 121 [v_r 32, v_i i1, v_i i2, v_i i3] s = b_Ck_classifier_0 (c_M d) i1 i2 i3 s := rfl
set_option maxRecDepth 20000 in
theorem e_Ck_under_0 (C : c_C) (i1 : Int32) (i2 : Int32) (s : c_S) : b_Ck_under_0 C i1 i2 s =
  c_bd (C 173 [v_r 3, v_i i1] s) fun s1 x1 =>
  c_bd (C 111 [v_r 19, v_i x1, v_i i2, v_i 0] s1) fun s2 x2 =>
  c_bd (C 113 [v_r 19, v_i i1, v_i i2, v_i x2] s2) fun s3 x3 =>
  some (s3, x3)
  := (c_blk_eq d_CT T_Ck_under L_Ck_under 1 C 400 0 [(0, v_r 32), (1, v_i i1), (2, v_i i2)] [] s).trans rfl
theorem m_Ck_under (d : Nat) (i1 : Int32) (i2 : Int32) (s : c_S) : c_M (d + 1) 122 [v_r 32, v_i i1, v_i i2] s = b_Ck_under_0 (c_M d) i1 i2 s := rfl
set_option maxRecDepth 20000 in
theorem e_Ck_family_0 (C : c_C) (i1 : Int32) (i2 : Int32) (s : c_S) : b_Ck_family_0 C i1 i2 s =
  c_bd (C 172 [v_r 3, v_i i1] s) fun s1 x1 =>
  if x1 = 7 then
    b_Ck_family_18 C i1 i2 1 s1
  else
    b_Ck_family_18 C i1 i2 0 s1
  := (c_blk_eq d_CT T_Ck_family L_Ck_family 0 C 400 0 [(0, v_r 32), (1, v_i i1), (2, v_i i2)] [] s).trans rfl
set_option maxRecDepth 20000 in
theorem e_Ck_family_18 (C : c_C) (i1 : Int32) (i2 : Int32) (t0 : Int32) (s : c_S) : b_Ck_family_18 C i1 i2 t0 s =
  if t0 = 0 then
    b_Ck_family_35 C i1 i2 t0 i1 s
  else
    c_bd (C 173 [v_r 3, v_i i1] s) fun s1 x1 =>
    b_Ck_family_35 C i1 i2 t0 x1 s1
  := (c_blk_eq d_CT T_Ck_family L_Ck_family 0 C 400 18 [(0, v_r 32), (1, v_i i1), (2, v_i i2)] [v_i t0] s).trans rfl
set_option maxRecDepth 20000 in
theorem e_Ck_family_35 (C : c_C) (i1 : Int32) (i2 : Int32) (i3 : Int32) (t0 : Int32) (s : c_S) : b_Ck_family_35 C i1 i2 i3 t0 s =
  if s.1 32 6 = 0 then
    if i3 = 0 then
      b_Ck_family_79 C i1 i2 t0 s
    else
      c_bd (C 179 [v_r 3, v_i t0] s) fun s1 x1 =>
      if x1 = 0 then
        b_Ck_family_79 C i1 i2 t0 s1
      else
        c_bd (C 178 [v_r 3, v_i t0] s1) fun s2 x2 =>
        c_bd (C 119 [v_r 32, v_i 6, v_i x2] s2) fun s3 _ =>
        some (s3, 0)
  else
    some (s, 0)
  := (c_blk_eq d_CT T_Ck_family L_Ck_family 0 C 400 35 [(0, v_r 32), (1, v_i i1), (2, v_i i2), (3, v_i i3)] [v_i t0] s).trans rfl
set_option maxRecDepth 20000 in
theorem e_Ck_family_79 (C : c_C) (i1 : Int32) (i2 : Int32) (i4 : Int32) (s : c_S) : b_Ck_family_79 C i1 i2 i4 s =
  c_bd (C 176 [v_r 3, v_i i4] s) fun s1 x1 =>
  c_bd (C 120 [v_r 32, v_i x1] s1) fun s2 x2 =>
  if x2 = 0 then
    some (s2, 0)
  else
    c_bd (C 172 [v_r 3, v_i i4] s2) fun s3 x3 =>
    if x3 = 6 then
      c_bd (C 176 [v_r 3, v_i i4] s3) fun s4 x4 =>
      c_bd (C 119 [v_r 32, v_i 2, v_i x4] s4) fun s5 _ =>
      some (s5, 0)
    else
      c_bd (C 124 [v_r 32, v_i i4] s3) fun s6 x6 =>
      if x6 = 0 then
        c_bd (C 177 [v_r 3, v_i i4] s6) fun s7 x7 =>
        c_bd (C 119 [v_r 32, v_i 6, v_i x7] s7) fun s8 _ =>
        some (s8, 0)
      else
        c_bd (C 173 [v_r 3, v_i i4] s6) fun s9 x9 =>
        c_bd (C 183 [v_r 3, v_i i1, v_i x9] s9) fun s10 _ =>
        b_Ck_family_170 C i1 i2 i4 s10
  := (c_blk_eq d_CT T_Ck_family L_Ck_family 0 C 400 79 [(0, v_r 32), (1, v_i i1), (2, v_i i2), (4, v_i i4)] [] s).trans rfl
set_option maxRecDepth 20000 in
theorem e_Ck_family_170 (C : c_C) (i1 : Int32) (i2 : Int32) (i4 : Int32) (s : c_S) : b_Ck_family_170 C i1 i2 i4 s =
  c_bd (C 176 [v_r 3, v_i i4] s) fun s1 x1 =>
  c_bd (C 125 [v_r 32, v_i i1, v_i x1, v_i i2] s1) fun s2 _ =>
  some (s2, 0)
  := (c_blk_eq d_CT T_Ck_family L_Ck_family 0 C 400 170 [(0, v_r 32), (1, v_i i1), (2, v_i i2), (4, v_i i4)] [] s).trans rfl
theorem m_Ck_family (d : Nat) (i1 : Int32) (i2 : Int32) (s : c_S) : c_M (d + 1) 123 [v_r 32, v_i i1, v_i i2] s = b_Ck_family_0 (c_M d) i1 i2 s := rfl
set_option maxRecDepth 20000 in
theorem e_Ck_isFamilyName_0 (C : c_C) (i1 : Int32) (s : c_S) : b_Ck_isFamilyName_0 C i1 s =
  c_bd (C 172 [v_r 3, v_i i1] s) fun s1 x1 =>
  if x1 = 5 then
    c_bd (C 173 [v_r 3, v_i i1] s1) fun s2 x2 =>
    c_bd (C 132 [v_r 11, v_i x2] s2) fun s3 x3 =>
    if x3 = 0 then
      some (s3, 1)
    else
      some (s3, 0)
  else
    some (s1, 0)
  := (c_blk_eq d_CT T_Ck_isFamilyName L_Ck_isFamilyName 2 C 400 0 [(0, v_r 32), (1, v_i i1)] [] s).trans rfl
theorem m_Ck_isFamilyName (d : Nat) (i1 : Int32) (s : c_S) : c_M (d + 1) 124 [v_r 32, v_i i1] s = b_Ck_isFamilyName_0 (c_M d) i1 s := rfl
set_option maxRecDepth 20000 in
theorem e_Ck_objectsOfFamily_0 (C : c_C) (i1 : Int32) (i2 : Int32) (i3 : Int32) (s : c_S) : b_Ck_objectsOfFamily_0 C i1 i2 i3 s =
  c_bd (C 173 [v_r 3, v_i i1] s) fun s1 x1 =>
  c_bd (C 133 [v_r 11, v_i x1] s1) fun s2 x2 =>
  c_bd (C 174 [v_r 3, v_i i1] s2) fun s3 x3 =>
  b_Ck_objectsOfFamily_30 C i1 i2 i3 x2 0 x3 s3
  := (c_blk_eq d_CT T_Ck_objectsOfFamily L_Ck_objectsOfFamily 0 C 400 0 [(0, v_r 32), (1, v_i i1), (2, v_i i2), (3, v_i i3)] [] s).trans rfl
set_option maxRecDepth 20000 in
theorem e_Ck_objectsOfFamily_30 (C : c_C) (i1 : Int32) (i2 : Int32) (i3 : Int32) (i4 : Int32) (i5 : Int32) (i6 : Int32) (s : c_S) : b_Ck_objectsOfFamily_30 C i1 i2 i3 i4 i5 i6 s =
  c_bd (C 157 [v_r 30, v_i i1, v_i i3, v_i 0] s) fun s1 x1 =>
  b_Ck_objectsOfFamily_45 C i2 i3 i4 i5 i6 x1 0 s1
  := (c_blk_eq d_CT T_Ck_objectsOfFamily L_Ck_objectsOfFamily 0 C 400 30 [(0, v_r 32), (1, v_i i1), (2, v_i i2), (3, v_i i3), (4, v_i i4), (5, v_i i5), (6, v_i i6)] [] s).trans rfl
set_option maxRecDepth 20000 in
theorem e_Ck_objectsOfFamily_45 (C : c_C) (i2 : Int32) (i3 : Int32) (i4 : Int32) (i5 : Int32) (i6 : Int32) (i7 : Int32) (i8 : Int32) (s : c_S) : b_Ck_objectsOfFamily_45 C i2 i3 i4 i5 i6 i7 i8 s =
  if i8 < 12800 then
    if i6 = 0 then
      b_Ck_objectsOfFamily_179 C i2 i4 s
    else
      c_bd (C 178 [v_r 3, v_i i6] s) fun s1 x1 =>
      c_bd (C 120 [v_r 32, v_i x1] s1) fun s2 x2 =>
      if x2 = 0 then
        some (s2, 0)
      else
        c_bd (C 172 [v_r 3, v_i i4] s2) fun s3 x3 =>
        if x3 = 2 then
          c_bd (C 173 [v_r 3, v_i i4] s3) fun s4 x4 =>
          c_bd (C 126 [v_r 32, v_i i6, v_i i3, v_i x4, v_i i5] s4) fun s5 _ =>
          b_Ck_objectsOfFamily_121 C i2 i3 i4 i5 i6 i7 i8 s5
        else
          c_bd (C 178 [v_r 3, v_i i6] s3) fun s6 x6 =>
          c_bd (C 119 [v_r 32, v_i 4, v_i x6] s6) fun s7 _ =>
          some (s7, 0)
  else
    b_Ck_objectsOfFamily_179 C i2 i4 s
  := (c_blk_eq d_CT T_Ck_objectsOfFamily L_Ck_objectsOfFamily 0 C 400 45 [(0, v_r 32), (2, v_i i2), (3, v_i i3), (4, v_i i4), (5, v_i i5), (6, v_i i6), (7, v_i i7), (8, v_i i8)] [] s).trans rfl
set_option maxRecDepth 20000 in
theorem e_Ck_objectsOfFamily_179 (C : c_C) (i2 : Int32) (i4 : Int32) (s : c_S) : b_Ck_objectsOfFamily_179 C i2 i4 s =
  c_bd (C 172 [v_r 3, v_i i4] s) fun s1 x1 =>
  if x1 = 2 then
    c_bd (C 119 [v_r 32, v_i 4, v_i i2] s1) fun s2 _ =>
    some (s2, 0)
  else
    some (s1, 0)
  := (c_blk_eq d_CT T_Ck_objectsOfFamily L_Ck_objectsOfFamily 0 C 400 179 [(0, v_r 32), (2, v_i i2), (4, v_i i4)] [] s).trans rfl
set_option maxRecDepth 20000 in
theorem e_Ck_objectsOfFamily_121 (C : c_C) (i2 : Int32) (i3 : Int32) (i4 : Int32) (i5 : Int32) (i6 : Int32) (i7 : Int32) (i8 : Int32) (s : c_S) : b_Ck_objectsOfFamily_121 C i2 i3 i4 i5 i6 i7 i8 s =
  c_bd (C 107 [v_r 19, v_i i7] s) fun s1 x1 =>
  c_bd (C 110 [v_r 19, v_i i7, v_i i4, v_i i5] s1) fun s2 x2 =>
  c_bd (C 174 [v_r 3, v_i i4] s2) fun s3 x3 =>
  b_Ck_objectsOfFamily_158 C i2 i3 x3 x2 i6 i8 x1 s3
  := (c_blk_eq d_CT T_Ck_objectsOfFamily L_Ck_objectsOfFamily 0 C 400 121 [(0, v_r 32), (2, v_i i2), (3, v_i i3), (4, v_i i4), (5, v_i i5), (6, v_i i6), (7, v_i i7), (8, v_i i8)] [] s).trans rfl
set_option maxRecDepth 20000 in
theorem e_Ck_objectsOfFamily_158 (C : c_C) (i2 : Int32) (i3 : Int32) (i4 : Int32) (i5 : Int32) (i6 : Int32) (i8 : Int32) (i9 : Int32) (s : c_S) : b_Ck_objectsOfFamily_158 C i2 i3 i4 i5 i6 i8 i9 s =
  c_bd (C 175 [v_r 3, v_i i6] s) fun s1 x1 =>
  b_Ck_objectsOfFamily_45 C i2 i3 i4 i5 x1 i9 (i8 + 1) s1
  := (c_blk_eq d_CT T_Ck_objectsOfFamily L_Ck_objectsOfFamily 0 C 400 158 [(0, v_r 32), (2, v_i i2), (3, v_i i3), (4, v_i i4), (5, v_i i5), (6, v_i i6), (8, v_i i8), (9, v_i i9)] [] s).trans rfl
theorem m_Ck_objectsOfFamily (d : Nat) (i1 : Int32) (i2 : Int32) (i3 : Int32) (s : c_S) : c_M (d + 1) 125 [v_r 32, v_i i1, v_i i2, v_i i3] s = b_Ck_objectsOfFamily_0 (c_M d) i1 i2 i3 s := rfl
set_option maxRecDepth 20000 in
theorem e_Ck_fitting_0 (C : c_C) (i1 : Int32) (i2 : Int32) (i3 : Int32) (i4 : Int32) (s : c_S) : b_Ck_fitting_0 C i1 i2 i3 i4 s =
  c_bd (C 127 [v_r 32, v_i i1, v_i i2] s) fun s1 _ =>
  if s1.1 32 6 = 0 then
    c_bd (C 102 [v_r 19] s1) fun s2 x2 =>
    c_bd (C 147 [v_r 31, v_i i1, v_i i2, v_i i3, v_i i4, v_i 1] s2) fun s3 x3 =>
    c_bd (C 103 [v_r 19, v_i x2] s3) fun s4 _ =>
    b_Ck_fitting_47 C i1 x3 s4
  else
    some (s1, 0)
  := (c_blk_eq d_CT T_Ck_fitting L_Ck_fitting 0 C 400 0 [(0, v_r 32), (1, v_i i1), (2, v_i i2), (3, v_i i3), (4, v_i i4)] [] s).trans rfl
set_option maxRecDepth 20000 in
theorem e_Ck_fitting_47 (C : c_C) (i1 : Int32) (i6 : Int32) (s : c_S) : b_Ck_fitting_47 C i1 i6 s =
  c_bd (C 164 [v_r 18] s) fun s1 x1 =>
  if x1 = 0 then
    if i6 = 0 then
      c_bd (C 178 [v_r 3, v_i i1] s1) fun s2 x2 =>
      c_bd (C 119 [v_r 32, v_i 7, v_i x2] s2) fun s3 _ =>
      some (s3, 0)
    else
      some (s1, 0)
  else
    c_bd (C 164 [v_r 18] s1) fun s4 x4 =>
    c_bd (C 178 [v_r 3, v_i i1] s4) fun s5 x5 =>
    c_bd (C 119 [v_r 32, v_i x4, v_i x5] s5) fun s6 _ =>
    some (s6, 0)
  := (c_blk_eq d_CT T_Ck_fitting L_Ck_fitting 0 C 400 47 [(0, v_r 32), (1, v_i i1), (6, v_i i6)] [] s).trans rfl
theorem m_Ck_fitting (d : Nat) (i1 : Int32) (i2 : Int32) (i3 : Int32) (i4 : Int32) (s : c_S) : c_M (d + 1) 126 [v_r 32, v_i i1, v_i i2, v_i i3, v_i i4] s = b_Ck_fitting_0 (c_M d) i1 i2 i3 i4 s := rfl
set_option maxRecDepth 20000 in
theorem e_Ck_object_0 (C : c_C) (i1 : Int32) (i2 : Int32) (s : c_S) : b_Ck_object_0 C i1 i2 s =
  c_bd (C 102 [v_r 19] s) fun s1 x1 =>
  b_Ck_object_17 C i1 i2 x1 0 s1
  := (c_blk_eq d_CT T_Ck_object L_Ck_object 0 C 400 0 [(0, v_r 32), (1, v_i i1), (2, v_i i2)] [] s).trans rfl
set_option maxRecDepth 20000 in
theorem e_Ck_object_17 (C : c_C) (i3 : Int32) (i4 : Int32) (i5 : Int32) (i6 : Int32) (s : c_S) : b_Ck_object_17 C i3 i4 i5 i6 s =
  if i6 < 12800 then
    c_bd (C 172 [v_r 3, v_i i3] s) fun s1 x1 =>
    if x1 = 3 then
      c_bd (C 176 [v_r 3, v_i i3] s1) fun s2 x2 =>
      c_bd (C 120 [v_r 32, v_i x2] s2) fun s3 x3 =>
      if x3 = 0 then
        some (s3, 0)
      else
        c_bd (C 173 [v_r 3, v_i i3] s3) fun s4 x4 =>
        c_bd (C 121 [v_r 32, v_i x4, v_i i4, v_i 0] s4) fun s5 x5 =>
        c_bd (C 122 [v_r 32, v_i i3, v_i i4] s5) fun s6 x6 =>
        b_Ck_object_78 C i3 x6 i5 i6 s6
    else
      b_Ck_object_93 C i3 i4 i5 s1
  else
    b_Ck_object_93 C i3 i4 i5 s
  := (c_blk_eq d_CT T_Ck_object L_Ck_object 0 C 400 17 [(0, v_r 32), (3, v_i i3), (4, v_i i4), (5, v_i i5), (6, v_i i6)] [] s).trans rfl
set_option maxRecDepth 20000 in
theorem e_Ck_object_78 (C : c_C) (i3 : Int32) (i4 : Int32) (i5 : Int32) (i6 : Int32) (s : c_S) : b_Ck_object_78 C i3 i4 i5 i6 s =
  c_bd (C 174 [v_r 3, v_i i3] s) fun s1 x1 =>
  b_Ck_object_17 C x1 i4 i5 (i6 + 1) s1
  := (c_blk_eq d_CT T_Ck_object L_Ck_object 0 C 400 78 [(0, v_r 32), (3, v_i i3), (4, v_i i4), (5, v_i i5), (6, v_i i6)] [] s).trans rfl
set_option maxRecDepth 20000 in
theorem e_Ck_object_93 (C : c_C) (i3 : Int32) (i4 : Int32) (i5 : Int32) (s : c_S) : b_Ck_object_93 C i3 i4 i5 s =
  if s.1 32 6 = 0 then
    c_bd (C 172 [v_r 3, v_i i3] s) fun s1 x1 =>
    if x1 = 7 then
      c_bd (C 129 [v_r 32, v_i i3, v_i i4] s1) fun s2 _ =>
      b_Ck_object_143 C i5 s2
    else
      b_Ck_object_123 C i3 i5 s1
  else
    b_Ck_object_123 C i3 i5 s
  := (c_blk_eq d_CT T_Ck_object L_Ck_object 0 C 400 93 [(0, v_r 32), (3, v_i i3), (4, v_i i4), (5, v_i i5)] [] s).trans rfl
set_option maxRecDepth 20000 in
theorem e_Ck_object_143 (C : c_C) (i5 : Int32) (s : c_S) : b_Ck_object_143 C i5 s =
  c_bd (C 103 [v_r 19, v_i i5] s) fun s1 _ =>
  some (s1, 0)
  := (c_blk_eq d_CT T_Ck_object L_Ck_object 0 C 400 143 [(0, v_r 32), (5, v_i i5)] [] s).trans rfl
set_option maxRecDepth 20000 in
theorem e_Ck_object_123 (C : c_C) (i3 : Int32) (i5 : Int32) (s : c_S) : b_Ck_object_123 C i3 i5 s =
  c_bd (C 176 [v_r 3, v_i i3] s) fun s1 x1 =>
  c_bd (C 120 [v_r 32, v_i x1] s1) fun s2 x2 =>
  if x2 = 0 then
    b_Ck_object_143 C i5 s2
  else
    c_bd (C 128 [v_r 32, v_i i3] s2) fun s3 _ =>
    b_Ck_object_143 C i5 s3
  := (c_blk_eq d_CT T_Ck_object L_Ck_object 0 C 400 123 [(0, v_r 32), (3, v_i i3), (5, v_i i5)] [] s).trans rfl
theorem m_Ck_object (d : Nat) (i1 : Int32) (i2 : Int32) (s : c_S) : c_M (d + 1) 127 [v_r 32, v_i i1, v_i i2] s = b_Ck_object_0 (c_M d) i1 i2 s := rfl
set_option maxRecDepth 20000 in
theorem e_Ck_bareObject_0 (C : c_C) (i1 : Int32) (s : c_S) : b_Ck_bareObject_0 C i1 s =
  c_bd (C 172 [v_r 3, v_i i1] s) fun s1 x1 =>
  if x1 = 6 then
    c_bd (C 176 [v_r 3, v_i i1] s1) fun s2 x2 =>
    c_bd (C 119 [v_r 32, v_i 2, v_i x2] s2) fun s3 _ =>
    some (s3, 0)
  else
    if x1 = 4 then
      some (s1, 0)
    else
      if x1 = 5 then
        c_bd (C 124 [v_r 32, v_i i1] s1) fun s4 x4 =>
        if x4 = 0 then
          some (s4, 0)
        else
          b_Ck_bareObject_49 C i1 s4
      else
        b_Ck_bareObject_49 C i1 s1
  := (c_blk_eq d_CT T_Ck_bareObject L_Ck_bareObject 0 C 400 0 [(0, v_r 32), (1, v_i i1)] [] s).trans rfl
set_option maxRecDepth 20000 in
theorem e_Ck_bareObject_49 (C : c_C) (i1 : Int32) (s : c_S) : b_Ck_bareObject_49 C i1 s =
  c_bd (C 177 [v_r 3, v_i i1] s) fun s1 x1 =>
  c_bd (C 119 [v_r 32, v_i 6, v_i x1] s1) fun s2 _ =>
  some (s2, 0)
  := (c_blk_eq d_CT T_Ck_bareObject L_Ck_bareObject 0 C 400 49 [(0, v_r 32), (1, v_i i1)] [] s).trans rfl
theorem m_Ck_bareObject (d : Nat) (i1 : Int32) (s : c_S) : c_M (d + 1) 128 [v_r 32, v_i i1] s = b_Ck_bareObject_0 (c_M d) i1 s := rfl
set_option maxRecDepth 20000 in
theorem e_Ck_applied_0 (C : c_C) (i1 : Int32) (i2 : Int32) (s : c_S) : b_Ck_applied_0 C i1 i2 s =
  c_bd (C 173 [v_r 3, v_i i1] s) fun s1 x1 =>
  c_bd (C 127 [v_r 32, v_i x1, v_i i2] s1) fun s2 _ =>
  if s2.1 32 6 = 0 then
    c_bd (C 158 [v_r 30, v_i x1, v_i i2] s2) fun s3 _ =>
    c_bd (C 151 [v_r 30] s3) fun s4 x4 =>
    b_Ck_applied_41 C i1 i2 x4 s4
  else
    some (s2, 0)
  := (c_blk_eq d_CT T_Ck_applied L_Ck_applied 0 C 400 0 [(0, v_r 32), (1, v_i i1), (2, v_i i2)] [] s).trans rfl
set_option maxRecDepth 20000 in
theorem e_Ck_applied_41 (C : c_C) (i1 : Int32) (i2 : Int32) (i4 : Int32) (s : c_S) : b_Ck_applied_41 C i1 i2 i4 s =
  c_bd (C 152 [v_r 30] s) fun s1 x1 =>
  c_bd (C 174 [v_r 3, v_i i1] s1) fun s2 x2 =>
  c_bd (C 157 [v_r 30, v_i i1, v_i i2, v_i 0] s2) fun s3 x3 =>
  b_Ck_applied_72 C i2 i4 x1 x2 x3 s3
  := (c_blk_eq d_CT T_Ck_applied L_Ck_applied 0 C 400 41 [(0, v_r 32), (1, v_i i1), (2, v_i i2), (4, v_i i4)] [] s).trans rfl
set_option maxRecDepth 20000 in
theorem e_Ck_applied_72 (C : c_C) (i2 : Int32) (i4 : Int32) (i5 : Int32) (i6 : Int32) (i7 : Int32) (s : c_S) : b_Ck_applied_72 C i2 i4 i5 i6 i7 s =
  b_Ck_applied_75 C i2 i4 i5 i6 i7 0 s
  := (c_blk_eq d_CT T_Ck_applied L_Ck_applied 0 C 400 72 [(0, v_r 32), (2, v_i i2), (4, v_i i4), (5, v_i i5), (6, v_i i6), (7, v_i i7)] [] s).trans rfl
set_option maxRecDepth 20000 in
theorem e_Ck_applied_75 (C : c_C) (i2 : Int32) (i4 : Int32) (i5 : Int32) (i6 : Int32) (i7 : Int32) (i8 : Int32) (s : c_S) : b_Ck_applied_75 C i2 i4 i5 i6 i7 i8 s =
  if i8 < 12800 then
    if i6 = 0 then
      some (s, 0)
    else
      c_bd (C 178 [v_r 3, v_i i6] s) fun s1 x1 =>
      c_bd (C 120 [v_r 32, v_i x1] s1) fun s2 x2 =>
      if x2 = 0 then
        some (s2, 0)
      else
        c_bd (C 180 [v_r 3, v_i i4] s2) fun s3 x3 =>
        if x3 = 0 then
          c_bd (C 178 [v_r 3, v_i i6] s3) fun s4 x4 =>
          c_bd (C 119 [v_r 32, v_i 8, v_i x4] s4) fun s5 _ =>
          some (s5, 0)
        else
          c_bd (C 173 [v_r 3, v_i i4] s3) fun s6 x6 =>
          c_bd (C 126 [v_r 32, v_i i6, v_i i2, v_i x6, v_i i5] s6) fun s7 _ =>
          b_Ck_applied_151 C i2 i4 i5 i6 i7 i8 s7
  else
    some (s, 0)
  := (c_blk_eq d_CT T_Ck_applied L_Ck_applied 0 C 400 75 [(0, v_r 32), (2, v_i i2), (4, v_i i4), (5, v_i i5), (6, v_i i6), (7, v_i i7), (8, v_i i8)] [] s).trans rfl
set_option maxRecDepth 20000 in
theorem e_Ck_applied_151 (C : c_C) (i2 : Int32) (i4 : Int32) (i5 : Int32) (i6 : Int32) (i7 : Int32) (i8 : Int32) (s : c_S) : b_Ck_applied_151 C i2 i4 i5 i6 i7 i8 s =
  c_bd (C 107 [v_r 19, v_i i7] s) fun s1 x1 =>
  c_bd (C 174 [v_r 3, v_i i4] s1) fun s2 x2 =>
  c_bd (C 110 [v_r 19, v_i i7, v_i i4, v_i i5] s2) fun s3 x3 =>
  c_bd (C 158 [v_r 30, v_i x2, v_i x3] s3) fun s4 _ =>
  c_bd (C 151 [v_r 30] s4) fun s5 x5 =>
  b_Ck_applied_200 C i2 x5 i6 i8 x1 s5
  := (c_blk_eq d_CT T_Ck_applied L_Ck_applied 0 C 400 151 [(0, v_r 32), (2, v_i i2), (4, v_i i4), (5, v_i i5), (6, v_i i6), (7, v_i i7), (8, v_i i8)] [] s).trans rfl
set_option maxRecDepth 20000 in
theorem e_Ck_applied_200 (C : c_C) (i2 : Int32) (i4 : Int32) (i6 : Int32) (i8 : Int32) (i9 : Int32) (s : c_S) : b_Ck_applied_200 C i2 i4 i6 i8 i9 s =
  c_bd (C 152 [v_r 30] s) fun s1 x1 =>
  c_bd (C 175 [v_r 3, v_i i6] s1) fun s2 x2 =>
  b_Ck_applied_75 C i2 i4 x1 x2 i9 (i8 + 1) s2
  := (c_blk_eq d_CT T_Ck_applied L_Ck_applied 0 C 400 200 [(0, v_r 32), (2, v_i i2), (4, v_i i4), (6, v_i i6), (8, v_i i8), (9, v_i i9)] [] s).trans rfl
theorem m_Ck_applied (d : Nat) (i1 : Int32) (i2 : Int32) (s : c_S) : c_M (d + 1) 129 [v_r 32, v_i i1, v_i i2] s = b_Ck_applied_0 (c_M d) i1 i2 s := rfl
set_option maxRecDepth 20000 in
theorem e_Ju_sameObjects_0 (C : c_C) (i1 : Int32) (i2 : Int32) (s : c_S) : b_Ju_sameObjects_0 C i1 i2 s =
  c_bd (C 104 [v_r 19, v_i i1, v_i 0] s) fun s1 x1 =>
  c_bd (C 104 [v_r 19, v_i i2, v_i 0] s1) fun s2 x2 =>
  c_bd (C 149 [v_r 31, v_i i1, v_i x1, v_i x2, v_i 1] s2) fun s3 x3 =>
  if x3 = 0 then
    some (s3, 0)
  else
    c_bd (C 148 [v_r 31, v_i (s3.1 31 7), v_i (s3.1 31 5), v_i (s3.1 31 6), v_i ((s3.1 31 8) + 1)] s3) fun s4 x4 =>
    if x4 = 0 then
      some (s4, 0)
    else
      some (s4, 1)
  := (c_blk_eq d_CT T_Ju_sameObjects L_Ju_sameObjects 2 C 400 0 [(0, v_r 31), (1, v_i i1), (2, v_i i2)] [] s).trans rfl
theorem m_Ju_sameObjects (d : Nat) (i1 : Int32) (i2 : Int32) (s : c_S) : c_M (d + 1) 146 [v_r 31, v_i i1, v_i i2] s = b_Ju_sameObjects_0 (c_M d) i1 i2 s := rfl
set_option maxRecDepth 20000 in
theorem e_Ju_families_0 (C : c_C) (i1 : Int32) (i2 : Int32) (i3 : Int32) (i4 : Int32) (i5 : Int32) (s : c_S) : b_Ju_families_0 C i1 i2 i3 i4 i5 s =
  b_Ju_families_17 C i1 i2 i3 i4 i5 s
  := (c_blk_eq d_CT T_Ju_families L_Ju_families 2 C 400 0 [(0, v_r 31), (1, v_i i1), (2, v_i i2), (3, v_i i3), (4, v_i i4), (5, v_i i5)] [] s).trans rfl
set_option maxRecDepth 20000 in
theorem e_Ju_families_17 (C : c_C) (i6 : Int32) (i7 : Int32) (i8 : Int32) (i9 : Int32) (i10 : Int32) (s : c_S) : b_Ju_families_17 C i6 i7 i8 i9 i10 s =
  b_Ju_families_20 C i6 i7 i8 i9 i10 0 s
  := (c_blk_eq d_CT T_Ju_families L_Ju_families 2 C 400 17 [(0, v_r 31), (6, v_i i6), (7, v_i i7), (8, v_i i8), (9, v_i i9), (10, v_i i10)] [] s).trans rfl
set_option maxRecDepth 20000 in
theorem e_Ju_families_20 (C : c_C) (i6 : Int32) (i7 : Int32) (i8 : Int32) (i9 : Int32) (i10 : Int32) (i11 : Int32) (s : c_S) : b_Ju_families_20 C i6 i7 i8 i9 i10 i11 s =
  if (100 : Int32) < i11 then
    b_Ju_families_261 C i6 i7 i8 i9 i10 s
  else
    c_bd (C 167 [v_r 18, v_i i10] s) fun s1 x1 =>
    if x1 = 0 then
      some (s1, 0)
    else
      c_bd (C 158 [v_r 30, v_i i6, v_i i7] s1) fun s2 _ =>
      c_bd (C 151 [v_r 30] s2) fun s3 x3 =>
      c_bd (C 152 [v_r 30] s3) fun s4 x4 =>
      b_Ju_families_70 C x3 x4 i8 i9 i10 i11 s4
  := (c_blk_eq d_CT T_Ju_families L_Ju_families 2 C 400 20 [(0, v_r 31), (6, v_i i6), (7, v_i i7), (8, v_i i8), (9, v_i i9), (10, v_i i10), (11, v_i i11)] [] s).trans rfl
set_option maxRecDepth 20000 in
theorem e_Ju_families_261 (C : c_C) (i6 : Int32) (i7 : Int32) (i8 : Int32) (i9 : Int32) (i10 : Int32) (s : c_S) : b_Ju_families_261 C i6 i7 i8 i9 i10 s =
  c_bd (C 172 [v_r 3, v_i i6] s) fun s1 x1 =>
  if x1 = 8 then
    c_bd (C 172 [v_r 3, v_i i8] s1) fun s2 x2 =>
    if x2 = 8 then
      c_bd (C 173 [v_r 3, v_i i6] s2) fun s3 x3 =>
      c_bd (C 173 [v_r 3, v_i i8] s3) fun s4 x4 =>
      if x3 = x4 then
        b_Ju_families_315 C i6 i7 i8 i9 i10 1 s4
      else
        b_Ju_families_315 C i6 i7 i8 i9 i10 0 s4
    else
      b_Ju_families_315 C i6 i7 i8 i9 i10 0 s2
  else
    b_Ju_families_315 C i6 i7 i8 i9 i10 0 s1
  := (c_blk_eq d_CT T_Ju_families L_Ju_families 2 C 400 261 [(0, v_r 31), (6, v_i i6), (7, v_i i7), (8, v_i i8), (9, v_i i9), (10, v_i i10)] [] s).trans rfl
set_option maxRecDepth 20000 in
theorem e_Ju_families_70 (C : c_C) (i6 : Int32) (i7 : Int32) (i8 : Int32) (i9 : Int32) (i10 : Int32) (i11 : Int32) (s : c_S) : b_Ju_families_70 C i6 i7 i8 i9 i10 i11 s =
  c_bd (C 158 [v_r 30, v_i i8, v_i i9] s) fun s1 _ =>
  c_bd (C 151 [v_r 30] s1) fun s2 x2 =>
  c_bd (C 152 [v_r 30] s2) fun s3 x3 =>
  c_bd (C 180 [v_r 3, v_i i6] s3) fun s4 x4 =>
  if x4 = 0 then
    b_Ju_families_261 C i6 i7 x2 x3 i10 s4
  else
    b_Ju_families_111 C i6 i7 x2 x3 i10 i11 s4
  := (c_blk_eq d_CT T_Ju_families L_Ju_families 2 C 400 70 [(0, v_r 31), (6, v_i i6), (7, v_i i7), (8, v_i i8), (9, v_i i9), (10, v_i i10), (11, v_i i11)] [] s).trans rfl
set_option maxRecDepth 20000 in
theorem e_Ju_families_315 (C : c_C) (i6 : Int32) (i7 : Int32) (i8 : Int32) (i9 : Int32) (i10 : Int32) (t0 : Int32) (s : c_S) : b_Ju_families_315 C i6 i7 i8 i9 i10 t0 s =
  if t0 = 0 then
    b_Ju_families_377 C  s
  else
    c_bd (C 173 [v_r 3, v_i i6] s) fun s1 x1 =>
    c_bd (C 133 [v_r 11, v_i x1] s1) fun s2 x2 =>
    c_bd (C 157 [v_r 30, v_i i6, v_i i7, v_i 0] s2) fun s3 x3 =>
    c_bd (C 157 [v_r 30, v_i i8, v_i i9, v_i 0] s3) fun s4 x4 =>
    c_bd (C 148 [v_r 31, v_i x2, v_i x3, v_i x4, v_i (i10 + 1)] s4) fun s5 x5 =>
    if x5 = 0 then
      b_Ju_families_377 C  s5
    else
      b_Ju_families_373 C  s5
  := (c_blk_eq d_CT T_Ju_families L_Ju_families 2 C 400 315 [(0, v_r 31), (6, v_i i6), (7, v_i i7), (8, v_i i8), (9, v_i i9), (10, v_i i10)] [v_i t0] s).trans rfl
set_option maxRecDepth 20000 in
theorem e_Ju_families_111 (C : c_C) (i6 : Int32) (i7 : Int32) (i8 : Int32) (i9 : Int32) (i10 : Int32) (i11 : Int32) (s : c_S) : b_Ju_families_111 C i6 i7 i8 i9 i10 i11 s =
  c_bd (C 180 [v_r 3, v_i i8] s) fun s1 x1 =>
  if x1 = 0 then
    b_Ju_families_261 C i6 i7 i8 i9 i10 s1
  else
    c_bd (C 102 [v_r 19] s1) fun s2 x2 =>
    c_bd (C 173 [v_r 3, v_i i6] s2) fun s3 x3 =>
    c_bd (C 173 [v_r 3, v_i i8] s3) fun s4 x4 =>
    c_bd (C 147 [v_r 31, v_i x3, v_i i7, v_i x4, v_i i9, v_i (i10 + 1)] s4) fun s5 x5 =>
    if x5 = 0 then
      b_Ju_families_168 C  s5
    else
      b_Ju_families_170 C i6 i7 i8 i9 i10 i11 x2 s5
  := (c_blk_eq d_CT T_Ju_families L_Ju_families 2 C 400 111 [(0, v_r 31), (6, v_i i6), (7, v_i i7), (8, v_i i8), (9, v_i i9), (10, v_i i10), (11, v_i i11)] [] s).trans rfl
set_option maxRecDepth 20000 in
theorem e_Ju_families_377 (C : c_C)  (s : c_S) : b_Ju_families_377 C  s =
  some (s, 0)
  := (c_blk_eq d_CT T_Ju_families L_Ju_families 2 C 400 377 [] [] s).trans rfl
set_option maxRecDepth 20000 in
theorem e_Ju_families_373 (C : c_C)  (s : c_S) : b_Ju_families_373 C  s =
  some (s, 1)
  := (c_blk_eq d_CT T_Ju_families L_Ju_families 2 C 400 373 [] [] s).trans rfl
set_option maxRecDepth 20000 in
theorem e_Ju_families_168 (C : c_C)  (s : c_S) : b_Ju_families_168 C  s =
  some (s, 0)
  := (c_blk_eq d_CT T_Ju_families L_Ju_families 2 C 400 168 [] [] s).trans rfl
set_option maxRecDepth 20000 in
theorem e_Ju_families_170 (C : c_C) (i6 : Int32) (i7 : Int32) (i8 : Int32) (i9 : Int32) (i10 : Int32) (i11 : Int32) (i12 : Int32) (s : c_S) : b_Ju_families_170 C i6 i7 i8 i9 i10 i11 i12 s =
  c_bd (C 103 [v_r 19, v_i i12] s) fun s1 _ =>
  c_bd (C 173 [v_r 3, v_i i6] s1) fun s2 x2 =>
  c_bd (C 111 [v_r 19, v_i x2, v_i i7, v_i 0] s2) fun s3 x3 =>
  c_bd (C 113 [v_r 19, v_i i6, v_i i7, v_i x3] s3) fun s4 x4 =>
  c_bd (C 174 [v_r 3, v_i i6] s4) fun s5 x5 =>
  b_Ju_families_226 C x5 x4 i8 i9 i10 i11 x3 s5
  := (c_blk_eq d_CT T_Ju_families L_Ju_families 2 C 400 170 [(0, v_r 31), (6, v_i i6), (7, v_i i7), (8, v_i i8), (9, v_i i9), (10, v_i i10), (11, v_i i11), (12, v_i i12)] [] s).trans rfl
set_option maxRecDepth 20000 in
theorem e_Ju_families_226 (C : c_C) (i6 : Int32) (i7 : Int32) (i8 : Int32) (i9 : Int32) (i10 : Int32) (i11 : Int32) (i13 : Int32) (s : c_S) : b_Ju_families_226 C i6 i7 i8 i9 i10 i11 i13 s =
  c_bd (C 113 [v_r 19, v_i i8, v_i i9, v_i i13] s) fun s1 x1 =>
  c_bd (C 174 [v_r 3, v_i i8] s1) fun s2 x2 =>
  b_Ju_families_20 C i6 i7 x2 x1 (i10 + 1) (i11 + 1) s2
  := (c_blk_eq d_CT T_Ju_families L_Ju_families 2 C 400 226 [(0, v_r 31), (6, v_i i6), (7, v_i i7), (8, v_i i8), (9, v_i i9), (10, v_i i10), (11, v_i i11), (13, v_i i13)] [] s).trans rfl
theorem m_Ju_families (d : Nat) (i1 : Int32) (i2 : Int32) (i3 : Int32) (i4 : Int32) (i5 : Int32) (s : c_S) : c_M (d + 1) 147 [v_r 31, v_i i1, v_i i2, v_i i3, v_i i4, v_i i5] s = b_Ju_families_0 (c_M d) i1 i2 i3 i4 i5 s := rfl
set_option maxRecDepth 20000 in
theorem e_Ju_rows_0 (C : c_C) (i1 : Int32) (i2 : Int32) (i3 : Int32) (i4 : Int32) (s : c_S) : b_Ju_rows_0 C i1 i2 i3 i4 s =
  b_Ju_rows_12 C i4 i1 i2 i3 0 s
  := (c_blk_eq d_CT T_Ju_rows L_Ju_rows 2 C 400 0 [(0, v_r 31), (1, v_i i1), (2, v_i i2), (3, v_i i3), (4, v_i i4)] [] s).trans rfl
set_option maxRecDepth 20000 in
theorem e_Ju_rows_12 (C : c_C) (i4 : Int32) (i5 : Int32) (i6 : Int32) (i7 : Int32) (i8 : Int32) (s : c_S) : b_Ju_rows_12 C i4 i5 i6 i7 i8 s =
  if i8 < 32768 then
    if i6 = 0 then
      b_Ju_rows_143 C i6 i7 s
    else
      if i7 = 0 then
        b_Ju_rows_143 C i6 i7 s
      else
        c_bd (C 102 [v_r 19] s) fun s1 x1 =>
        c_bd (C 107 [v_r 19, v_i i6] s1) fun s2 x2 =>
        b_Ju_rows_49 C i4 i5 i6 i7 i8 x1 x2 s2
  else
    b_Ju_rows_143 C i6 i7 s
  := (c_blk_eq d_CT T_Ju_rows L_Ju_rows 2 C 400 12 [(0, v_r 31), (4, v_i i4), (5, v_i i5), (6, v_i i6), (7, v_i i7), (8, v_i i8)] [] s).trans rfl
set_option maxRecDepth 20000 in
theorem e_Ju_rows_143 (C : c_C) (i6 : Int32) (i7 : Int32) (s : c_S) : b_Ju_rows_143 C i6 i7 s =
  if i6 = 0 then
    if i7 = 0 then
      c_bd (C 164 [v_r 18] s) fun s1 x1 =>
      if x1 = 0 then
        some (s1, 1)
      else
        some (s1, 0)
    else
      some (s, 0)
  else
    some (s, 0)
  := (c_blk_eq d_CT T_Ju_rows L_Ju_rows 2 C 400 143 [(0, v_r 31), (6, v_i i6), (7, v_i i7)] [] s).trans rfl
set_option maxRecDepth 20000 in
theorem e_Ju_rows_49 (C : c_C) (i4 : Int32) (i5 : Int32) (i6 : Int32) (i7 : Int32) (i8 : Int32) (i9 : Int32) (i10 : Int32) (s : c_S) : b_Ju_rows_49 C i4 i5 i6 i7 i8 i9 i10 s =
  c_bd (C 107 [v_r 19, v_i i7] s) fun s1 x1 =>
  c_bd (C 173 [v_r 3, v_i i5] s1) fun s2 x2 =>
  c_bd (C 149 [v_r 31, v_i x2, v_i i6, v_i i7, v_i i4] s2) fun s3 x3 =>
  if x3 = 0 then
    some (s3, 0)
  else
    c_bd (C 148 [v_r 31, v_i (s3.1 31 7), v_i (s3.1 31 5), v_i (s3.1 31 6), v_i ((s3.1 31 8) + 1)] s3) fun s4 x4 =>
    if x4 = 0 then
      some (s4, 0)
    else
      c_bd (C 103 [v_r 19, v_i i9] s4) fun s5 _ =>
      b_Ju_rows_118 C i4 i5 i8 i10 x1 s5
  := (c_blk_eq d_CT T_Ju_rows L_Ju_rows 2 C 400 49 [(0, v_r 31), (4, v_i i4), (5, v_i i5), (6, v_i i6), (7, v_i i7), (8, v_i i8), (9, v_i i9), (10, v_i i10)] [] s).trans rfl
set_option maxRecDepth 20000 in
theorem e_Ju_rows_118 (C : c_C) (i4 : Int32) (i5 : Int32) (i8 : Int32) (i10 : Int32) (i11 : Int32) (s : c_S) : b_Ju_rows_118 C i4 i5 i8 i10 i11 s =
  c_bd (C 174 [v_r 3, v_i i5] s) fun s1 x1 =>
  b_Ju_rows_12 C i4 x1 i10 i11 (i8 + 1) s1
  := (c_blk_eq d_CT T_Ju_rows L_Ju_rows 2 C 400 118 [(0, v_r 31), (4, v_i i4), (5, v_i i5), (8, v_i i8), (10, v_i i10), (11, v_i i11)] [] s).trans rfl
theorem m_Ju_rows (d : Nat) (i1 : Int32) (i2 : Int32) (i3 : Int32) (i4 : Int32) (s : c_S) : c_M (d + 1) 148 [v_r 31, v_i i1, v_i i2, v_i i3, v_i i4] s = b_Ju_rows_0 (c_M d) i1 i2 i3 i4 s := rfl
set_option maxRecDepth 20000 in
theorem e_Ju_meet_0 (C : c_C) (i1 : Int32) (i2 : Int32) (i3 : Int32) (i4 : Int32) (s : c_S) : b_Ju_meet_0 C i1 i2 i3 i4 s =
  b_Ju_meet_16 C i2 i3 i1 0 i4 0 0 s
  := (c_blk_eq d_CT T_Ju_meet L_Ju_meet 2 C 400 0 [(0, v_r 31), (1, v_i i1), (2, v_i i2), (3, v_i i3), (4, v_i i4)] [] s).trans rfl
set_option maxRecDepth 20000 in
theorem e_Ju_meet_16 (C : c_C) (i2 : Int32) (i3 : Int32) (i5 : Int32) (i6 : Int32) (i7 : Int32) (i8 : Int32) (i9 : Int32) (s : c_S) : b_Ju_meet_16 C i2 i3 i5 i6 i7 i8 i9 s =
  b_Ju_meet_19 C i2 i3 i5 i6 i7 i8 i9 0 s
  := (c_blk_eq d_CT T_Ju_meet L_Ju_meet 2 C 400 16 [(0, v_r 31), (2, v_i i2), (3, v_i i3), (5, v_i i5), (6, v_i i6), (7, v_i i7), (8, v_i i8), (9, v_i i9)] [] s).trans rfl
set_option maxRecDepth 20000 in
theorem e_Ju_meet_19 (C : c_C) (i2 : Int32) (i3 : Int32) (i5 : Int32) (i6 : Int32) (i7 : Int32) (i8 : Int32) (i9 : Int32) (i10 : Int32) (s : c_S) : b_Ju_meet_19 C i2 i3 i5 i6 i7 i8 i9 i10 s =
  if (100 : Int32) < i10 then
    b_Ju_meet_166 C i2 i3 i7 i8 i9 s
  else
    c_bd (C 167 [v_r 18, v_i i7] s) fun s1 x1 =>
    if x1 = 0 then
      some (s1, 0)
    else
      c_bd (C 158 [v_r 30, v_i i5, v_i i6] s1) fun s2 _ =>
      c_bd (C 151 [v_r 30] s2) fun s3 x3 =>
      c_bd (C 152 [v_r 30] s3) fun s4 x4 =>
      b_Ju_meet_69 C i2 i3 x3 x4 i7 i8 i9 i10 s4
  := (c_blk_eq d_CT T_Ju_meet L_Ju_meet 2 C 400 19 [(0, v_r 31), (2, v_i i2), (3, v_i i3), (5, v_i i5), (6, v_i i6), (7, v_i i7), (8, v_i i8), (9, v_i i9), (10, v_i i10)] [] s).trans rfl
set_option maxRecDepth 20000 in
theorem e_Ju_meet_166 (C : c_C) (i2 : Int32) (i3 : Int32) (i7 : Int32) (i8 : Int32) (i9 : Int32) (s : c_S) : b_Ju_meet_166 C i2 i3 i7 i8 i9 s =
  c_bd (C 105 [v_r 19, v_i i2] s) fun s1 x1 =>
  c_bd (C 106 [v_r 19, v_i i2] s1) fun s2 x2 =>
  c_bd (C 159 [v_r 30, v_i x1, v_i x2, v_i i8] s2) fun s3 x3 =>
  if x3 = 0 then
    some (s3, 0)
  else
    c_bd (C 153 [v_r 30] s3) fun s4 x4 =>
    c_bd (C 154 [v_r 30] s4) fun s5 x5 =>
    b_Ju_meet_216 C i3 i7 i9 x4 (c_put s5 31 5 x5)
  := (c_blk_eq d_CT T_Ju_meet L_Ju_meet 2 C 400 166 [(0, v_r 31), (2, v_i i2), (3, v_i i3), (7, v_i i7), (8, v_i i8), (9, v_i i9)] [] s).trans rfl
set_option maxRecDepth 20000 in
theorem e_Ju_meet_69 (C : c_C) (i2 : Int32) (i3 : Int32) (i5 : Int32) (i6 : Int32) (i7 : Int32) (i8 : Int32) (i9 : Int32) (i10 : Int32) (s : c_S) : b_Ju_meet_69 C i2 i3 i5 i6 i7 i8 i9 i10 s =
  c_bd (C 180 [v_r 3, v_i i5] s) fun s1 x1 =>
  if x1 = 0 then
    b_Ju_meet_166 C i2 i3 i7 i8 i9 s1
  else
    c_bd (C 173 [v_r 3, v_i i5] s1) fun s2 x2 =>
    c_bd (C 111 [v_r 19, v_i x2, v_i i6, v_i 0] s2) fun s3 x3 =>
    c_bd (C 114 [v_r 19, v_i i8, v_i x3] s3) fun s4 x4 =>
    b_Ju_meet_118 C i2 i3 i5 i6 i7 x4 i9 i10 x3 s4
  := (c_blk_eq d_CT T_Ju_meet L_Ju_meet 2 C 400 69 [(0, v_r 31), (2, v_i i2), (3, v_i i3), (5, v_i i5), (6, v_i i6), (7, v_i i7), (8, v_i i8), (9, v_i i9), (10, v_i i10)] [] s).trans rfl
set_option maxRecDepth 20000 in
theorem e_Ju_meet_216 (C : c_C) (i3 : Int32) (i7 : Int32) (i9 : Int32) (i10 : Int32) (s : c_S) : b_Ju_meet_216 C i3 i7 i9 i10 s =
  c_bd (C 105 [v_r 19, v_i i3] s) fun s1 x1 =>
  c_bd (C 106 [v_r 19, v_i i3] s1) fun s2 x2 =>
  c_bd (C 159 [v_r 30, v_i x1, v_i x2, v_i i9] s2) fun s3 x3 =>
  if x3 = 0 then
    some (s3, 0)
  else
    c_bd (C 154 [v_r 30] s3) fun s4 x4 =>
    c_bd (C 155 [v_r 30] (c_put s4 31 6 x4)) fun s5 x5 =>
    b_Ju_meet_274 C i10 (c_put (c_put s5 31 7 x5) 31 8 i7)
  := (c_blk_eq d_CT T_Ju_meet L_Ju_meet 2 C 400 216 [(0, v_r 31), (3, v_i i3), (7, v_i i7), (9, v_i i9), (10, v_i i10)] [] s).trans rfl
set_option maxRecDepth 20000 in
theorem e_Ju_meet_118 (C : c_C) (i2 : Int32) (i3 : Int32) (i5 : Int32) (i6 : Int32) (i7 : Int32) (i8 : Int32) (i9 : Int32) (i10 : Int32) (i11 : Int32) (s : c_S) : b_Ju_meet_118 C i2 i3 i5 i6 i7 i8 i9 i10 i11 s =
  c_bd (C 114 [v_r 19, v_i i9, v_i i11] s) fun s1 x1 =>
  c_bd (C 113 [v_r 19, v_i i5, v_i i6, v_i i11] s1) fun s2 x2 =>
  c_bd (C 174 [v_r 3, v_i i5] s2) fun s3 x3 =>
  b_Ju_meet_157 C i2 i3 x3 x2 i7 i8 x1 i10 s3
  := (c_blk_eq d_CT T_Ju_meet L_Ju_meet 2 C 400 118 [(0, v_r 31), (2, v_i i2), (3, v_i i3), (5, v_i i5), (6, v_i i6), (7, v_i i7), (8, v_i i8), (9, v_i i9), (10, v_i i10), (11, v_i i11)] [] s).trans rfl
set_option maxRecDepth 20000 in
theorem e_Ju_meet_274 (C : c_C) (i10 : Int32) (s : c_S) : b_Ju_meet_274 C i10 s =
  c_bd (C 153 [v_r 30] s) fun s1 x1 =>
  if i10 = x1 then
    c_bd (C 150 [v_r 31, v_i (s1.1 31 5), v_i (s1.1 31 6)] s1) fun s2 x2 =>
    if x2 = 0 then
      some (s2, 0)
    else
      some (s2, 1)
  else
    some (s1, 0)
  := (c_blk_eq d_CT T_Ju_meet L_Ju_meet 2 C 400 274 [(0, v_r 31), (10, v_i i10)] [] s).trans rfl
set_option maxRecDepth 20000 in
theorem e_Ju_meet_157 (C : c_C) (i2 : Int32) (i3 : Int32) (i5 : Int32) (i6 : Int32) (i7 : Int32) (i8 : Int32) (i9 : Int32) (i10 : Int32) (s : c_S) : b_Ju_meet_157 C i2 i3 i5 i6 i7 i8 i9 i10 s =
  b_Ju_meet_19 C i2 i3 i5 i6 (i7 + 1) i8 i9 (i10 + 1) s
  := (c_blk_eq d_CT T_Ju_meet L_Ju_meet 2 C 400 157 [(0, v_r 31), (2, v_i i2), (3, v_i i3), (5, v_i i5), (6, v_i i6), (7, v_i i7), (8, v_i i8), (9, v_i i9), (10, v_i i10)] [] s).trans rfl
theorem m_Ju_meet (d : Nat) (i1 : Int32) (i2 : Int32) (i3 : Int32) (i4 : Int32) (s : c_S) : c_M (d + 1) 149 [v_r 31, v_i i1, v_i i2, v_i i3, v_i i4] s = b_Ju_meet_0 (c_M d) i1 i2 i3 i4 s := rfl
set_option maxRecDepth 20000 in
theorem e_Ju_sameLength_0 (C : c_C) (i1 : Int32) (i2 : Int32) (s : c_S) : b_Ju_sameLength_0 C i1 i2 s =
  b_Ju_sameLength_8 C i1 i2 0 s
  := (c_blk_eq d_CT T_Ju_sameLength L_Ju_sameLength 2 C 400 0 [(0, v_r 31), (1, v_i i1), (2, v_i i2)] [] s).trans rfl
set_option maxRecDepth 20000 in
theorem e_Ju_sameLength_8 (C : c_C) (i3 : Int32) (i4 : Int32) (i5 : Int32) (s : c_S) : b_Ju_sameLength_8 C i3 i4 i5 s =
  if i5 < 32768 then
    if i3 = 0 then
      if i3 = 0 then
        if i4 = 0 then
          some (s, 1)
        else
          some (s, 0)
      else
        some (s, 0)
    else
      if i4 = 0 then
        if i3 = 0 then
          if i4 = 0 then
            some (s, 1)
          else
            some (s, 0)
        else
          some (s, 0)
      else
        c_bd (C 107 [v_r 19, v_i i3] s) fun s1 x1 =>
        c_bd (C 107 [v_r 19, v_i i4] s1) fun s2 x2 =>
        b_Ju_sameLength_44 C x1 x2 i5 s2
  else
    if i3 = 0 then
      if i4 = 0 then
        some (s, 1)
      else
        some (s, 0)
    else
      some (s, 0)
  := (c_blk_eq d_CT T_Ju_sameLength L_Ju_sameLength 2 C 400 8 [(0, v_r 31), (3, v_i i3), (4, v_i i4), (5, v_i i5)] [] s).trans rfl
set_option maxRecDepth 20000 in
theorem e_Ju_sameLength_44 (C : c_C) (i3 : Int32) (i4 : Int32) (i5 : Int32) (s : c_S) : b_Ju_sameLength_44 C i3 i4 i5 s =
  b_Ju_sameLength_8 C i3 i4 (i5 + 1) s
  := (c_blk_eq d_CT T_Ju_sameLength L_Ju_sameLength 2 C 400 44 [(0, v_r 31), (3, v_i i3), (4, v_i i4), (5, v_i i5)] [] s).trans rfl
theorem m_Ju_sameLength (d : Nat) (i1 : Int32) (i2 : Int32) (s : c_S) : c_M (d + 1) 150 [v_r 31, v_i i1, v_i i2] s = b_Ju_sameLength_0 (c_M d) i1 i2 s := rfl
set_option maxRecDepth 20000 in
theorem e_Wr_write_0 (C : c_C) (i1 : Int32) (i2 : Int32) (s : c_S) : b_Wr_write_0 C i1 i2 s =
  c_bd (C 143 [v_r 11] s) fun s1 x1 =>
  c_bd (C 186 [v_r 24] (c_put s1 33 6 x1)) fun s2 _ =>
  if i2 = 0 then
    c_bd (C 104 [v_r 19, v_i i1, v_i 0] s2) fun s3 x3 =>
    c_bd (C 229 [v_r 33, v_i i1, v_i 0, v_i x3, v_i 1, v_i 0, v_i 0] s3) fun s4 _ =>
    b_Wr_write_51 C  s4
  else
    c_bd (C 227 [v_r 33, v_i i1, v_i 0, v_i 1, v_i 0] s2) fun s5 _ =>
    b_Wr_write_51 C  s5
  := (c_blk_eq d_CT T_Wr_write L_Wr_write 0 C 400 0 [(0, v_r 33), (1, v_i i1), (2, v_i i2)] [] s).trans rfl
set_option maxRecDepth 20000 in
theorem e_Wr_write_51 (C : c_C)  (s : c_S) : b_Wr_write_51 C  s =
  c_bd (C 164 [v_r 18] s) fun s1 x1 =>
  if x1 = 0 then
    c_bd (C 188 [v_r 24] s1) fun s2 _ =>
    some (s2, 0)
  else
    some (s1, 0)
  := (c_blk_eq d_CT T_Wr_write L_Wr_write 0 C 400 51 [(0, v_r 33)] [] s).trans rfl
theorem m_Wr_write (d : Nat) (i1 : Int32) (i2 : Int32) (s : c_S) : c_M (d + 1) 226 [v_r 33, v_i i1, v_i i2] s = b_Wr_write_0 (c_M d) i1 i2 s := rfl
set_option maxRecDepth 20000 in
theorem e_Wr_family_0 (C : c_C) (i1 : Int32) (i2 : Int32) (i3 : Int32) (i4 : Int32) (s : c_S) : b_Wr_family_0 C i1 i2 i3 i4 s =
  b_Wr_family_16 C i1 i2 i3 i4 0 s
  := (c_blk_eq d_CT T_Wr_family L_Wr_family 0 C 400 0 [(0, v_r 33), (1, v_i i1), (2, v_i i2), (3, v_i i3), (4, v_i i4)] [] s).trans rfl
set_option maxRecDepth 20000 in
theorem e_Wr_family_16 (C : c_C) (i5 : Int32) (i6 : Int32) (i7 : Int32) (i8 : Int32) (i9 : Int32) (s : c_S) : b_Wr_family_16 C i5 i6 i7 i8 i9 s =
  if (100 : Int32) < i9 then
    b_Wr_family_175 C i5 i6 i7 i8 s
  else
    c_bd (C 167 [v_r 18, v_i i7] s) fun s1 x1 =>
    if x1 = 0 then
      some (s1, 0)
    else
      c_bd (C 158 [v_r 30, v_i i5, v_i i6] s1) fun s2 _ =>
      c_bd (C 151 [v_r 30] s2) fun s3 x3 =>
      c_bd (C 152 [v_r 30] s3) fun s4 x4 =>
      b_Wr_family_65 C x3 x4 i7 i8 i9 s4
  := (c_blk_eq d_CT T_Wr_family L_Wr_family 0 C 400 16 [(0, v_r 33), (5, v_i i5), (6, v_i i6), (7, v_i i7), (8, v_i i8), (9, v_i i9)] [] s).trans rfl
set_option maxRecDepth 20000 in
theorem e_Wr_family_175 (C : c_C) (i5 : Int32) (i6 : Int32) (i7 : Int32) (i8 : Int32) (s : c_S) : b_Wr_family_175 C i5 i6 i7 i8 s =
  c_bd (C 173 [v_r 3, v_i i5] s) fun s1 x1 =>
  c_bd (C 232 [v_r 33, v_i x1] s1) fun s2 _ =>
  c_bd (C 133 [v_r 11, v_i x1] s2) fun s3 x3 =>
  c_bd (C 157 [v_r 30, v_i i5, v_i i6, v_i 0] s3) fun s4 x4 =>
  c_bd (C 231 [v_r 33, v_i x3, v_i 0, v_i x4, v_i (i7 + 1), v_i i8] s4) fun s5 _ =>
  some (s5, 0)
  := (c_blk_eq d_CT T_Wr_family L_Wr_family 0 C 400 175 [(0, v_r 33), (5, v_i i5), (6, v_i i6), (7, v_i i7), (8, v_i i8)] [] s).trans rfl
set_option maxRecDepth 20000 in
theorem e_Wr_family_65 (C : c_C) (i5 : Int32) (i6 : Int32) (i7 : Int32) (i8 : Int32) (i9 : Int32) (s : c_S) : b_Wr_family_65 C i5 i6 i7 i8 i9 s =
  c_bd (C 180 [v_r 3, v_i i5] s) fun s1 x1 =>
  if x1 = 0 then
    b_Wr_family_175 C i5 i6 i7 i8 s1
  else
    c_bd (C 187 [v_r 24, v_i 123] s1) fun s2 _ =>
    c_bd (C 173 [v_r 3, v_i i5] s2) fun s3 x3 =>
    c_bd (C 228 [v_r 33, v_i x3, v_i i6, v_i (i7 + 1), v_i i8] s3) fun s4 _ =>
    c_bd (C 187 [v_r 24, v_i 125] s4) fun s5 _ =>
    c_bd (C 173 [v_r 3, v_i i5] s5) fun s6 x6 =>
    c_bd (C 111 [v_r 19, v_i x6, v_i i6, v_i i8] s6) fun s7 x7 =>
    c_bd (C 113 [v_r 19, v_i i5, v_i i6, v_i x7] s7) fun s8 x8 =>
    b_Wr_family_152 C i5 x8 i7 i8 i9 s8
  := (c_blk_eq d_CT T_Wr_family L_Wr_family 0 C 400 65 [(0, v_r 33), (5, v_i i5), (6, v_i i6), (7, v_i i7), (8, v_i i8), (9, v_i i9)] [] s).trans rfl
set_option maxRecDepth 20000 in
theorem e_Wr_family_152 (C : c_C) (i5 : Int32) (i6 : Int32) (i7 : Int32) (i8 : Int32) (i9 : Int32) (s : c_S) : b_Wr_family_152 C i5 i6 i7 i8 i9 s =
  c_bd (C 174 [v_r 3, v_i i5] s) fun s1 x1 =>
  b_Wr_family_16 C x1 i6 (i7 + 1) (i8 + 1) (i9 + 1) s1
  := (c_blk_eq d_CT T_Wr_family L_Wr_family 0 C 400 152 [(0, v_r 33), (5, v_i i5), (6, v_i i6), (7, v_i i7), (8, v_i i8), (9, v_i i9)] [] s).trans rfl
theorem m_Wr_family (d : Nat) (i1 : Int32) (i2 : Int32) (i3 : Int32) (i4 : Int32) (s : c_S) : c_M (d + 1) 227 [v_r 33, v_i i1, v_i i2, v_i i3, v_i i4] s = b_Wr_family_0 (c_M d) i1 i2 i3 i4 s := rfl
set_option maxRecDepth 20000 in
theorem e_Wr_binding_0 (C : c_C) (i1 : Int32) (i2 : Int32) (i3 : Int32) (i4 : Int32) (s : c_S) : b_Wr_binding_0 C i1 i2 i3 i4 s =
  c_bd (C 102 [v_r 19] s) fun s1 x1 =>
  c_bd (C 233 [v_r 33, v_i i4] s1) fun s2 _ =>
  c_bd (C 187 [v_r 24, v_i 58] s2) fun s3 _ =>
  c_bd (C 227 [v_r 33, v_i i1, v_i i2, v_i i3, v_i i4] s3) fun s4 _ =>
  c_bd (C 103 [v_r 19, v_i x1] s4) fun s5 _ =>
  some (s5, 0)
  := (c_blk_eq d_CT T_Wr_binding L_Wr_binding 0 C 400 0 [(0, v_r 33), (1, v_i i1), (2, v_i i2), (3, v_i i3), (4, v_i i4)] [] s).trans rfl
theorem m_Wr_binding (d : Nat) (i1 : Int32) (i2 : Int32) (i3 : Int32) (i4 : Int32) (s : c_S) : c_M (d + 1) 228 [v_r 33, v_i i1, v_i i2, v_i i3, v_i i4] s = b_Wr_binding_0 (c_M d) i1 i2 i3 i4 s := rfl
set_option maxRecDepth 20000 in
theorem e_Wr_object_0 (C : c_C) (i1 : Int32) (i2 : Int32) (i3 : Int32) (i4 : Int32) (i5 : Int32) (i6 : Int32) (s : c_S) : b_Wr_object_0 C i1 i2 i3 i4 i5 i6 s =
  b_Wr_object_17 C i3 i5 i6 i1 i2 i4 i5 0 s
  := (c_blk_eq d_CT T_Wr_object L_Wr_object 0 C 400 0 [(0, v_r 33), (1, v_i i1), (2, v_i i2), (3, v_i i3), (4, v_i i4), (5, v_i i5), (6, v_i i6)] [] s).trans rfl
set_option maxRecDepth 20000 in
theorem e_Wr_object_17 (C : c_C) (i3 : Int32) (i5 : Int32) (i6 : Int32) (i7 : Int32) (i8 : Int32) (i9 : Int32) (i10 : Int32) (i11 : Int32) (s : c_S) : b_Wr_object_17 C i3 i5 i6 i7 i8 i9 i10 i11 s =
  b_Wr_object_20 C i3 i5 i6 i7 i8 i9 i10 i11 0 s
  := (c_blk_eq d_CT T_Wr_object L_Wr_object 0 C 400 17 [(0, v_r 33), (3, v_i i3), (5, v_i i5), (6, v_i i6), (7, v_i i7), (8, v_i i8), (9, v_i i9), (10, v_i i10), (11, v_i i11)] [] s).trans rfl
set_option maxRecDepth 20000 in
theorem e_Wr_object_20 (C : c_C) (i3 : Int32) (i5 : Int32) (i6 : Int32) (i7 : Int32) (i8 : Int32) (i9 : Int32) (i10 : Int32) (i11 : Int32) (i12 : Int32) (s : c_S) : b_Wr_object_20 C i3 i5 i6 i7 i8 i9 i10 i11 i12 s =
  if (100 : Int32) < i12 then
    b_Wr_object_215 C i3 i5 i6 i9 i10 i11 s
  else
    c_bd (C 167 [v_r 18, v_i i9] s) fun s1 x1 =>
    if x1 = 0 then
      some (s1, 0)
    else
      c_bd (C 158 [v_r 30, v_i i7, v_i i8] s1) fun s2 _ =>
      c_bd (C 151 [v_r 30] s2) fun s3 x3 =>
      c_bd (C 152 [v_r 30] s3) fun s4 x4 =>
      b_Wr_object_69 C i3 i5 i6 x3 x4 i9 i10 i11 i12 s4
  := (c_blk_eq d_CT T_Wr_object L_Wr_object 0 C 400 20 [(0, v_r 33), (3, v_i i3), (5, v_i i5), (6, v_i i6), (7, v_i i7), (8, v_i i8), (9, v_i i9), (10, v_i i10), (11, v_i i11), (12, v_i i12)] [] s).trans rfl
set_option maxRecDepth 20000 in
theorem e_Wr_object_215 (C : c_C) (i3 : Int32) (i5 : Int32) (i6 : Int32) (i9 : Int32) (i10 : Int32) (i11 : Int32) (s : c_S) : b_Wr_object_215 C i3 i5 i6 i9 i10 i11 s =
  c_bd (C 105 [v_r 19, v_i i3] s) fun s1 x1 =>
  c_bd (C 106 [v_r 19, v_i i3] s1) fun s2 x2 =>
  c_bd (C 159 [v_r 30, v_i x1, v_i x2, v_i i11] s2) fun s3 x3 =>
  if x3 = 0 then
    some (s3, 0)
  else
    if i5 < i10 then
      b_Wr_object_256 C i6 i9 i10 1 s3
    else
      b_Wr_object_256 C i6 i9 i10 0 s3
  := (c_blk_eq d_CT T_Wr_object L_Wr_object 0 C 400 215 [(0, v_r 33), (3, v_i i3), (5, v_i i5), (6, v_i i6), (9, v_i i9), (10, v_i i10), (11, v_i i11)] [] s).trans rfl
set_option maxRecDepth 20000 in
theorem e_Wr_object_69 (C : c_C) (i3 : Int32) (i5 : Int32) (i6 : Int32) (i7 : Int32) (i8 : Int32) (i9 : Int32) (i10 : Int32) (i11 : Int32) (i12 : Int32) (s : c_S) : b_Wr_object_69 C i3 i5 i6 i7 i8 i9 i10 i11 i12 s =
  c_bd (C 180 [v_r 3, v_i i7] s) fun s1 x1 =>
  if x1 = 0 then
    b_Wr_object_215 C i3 i5 i6 i9 i10 i11 s1
  else
    if i6 = 0 then
      b_Wr_object_103 C i3 i5 i6 i7 i8 i9 i10 i11 i12 s1
    else
      if i12 = 0 then
        c_bd (C 187 [v_r 24, v_i 40] s1) fun s2 _ =>
        b_Wr_object_103 C i3 i5 i6 i7 i8 i9 i10 i11 i12 s2
      else
        b_Wr_object_103 C i3 i5 i6 i7 i8 i9 i10 i11 i12 s1
  := (c_blk_eq d_CT T_Wr_object L_Wr_object 0 C 400 69 [(0, v_r 33), (3, v_i i3), (5, v_i i5), (6, v_i i6), (7, v_i i7), (8, v_i i8), (9, v_i i9), (10, v_i i10), (11, v_i i11), (12, v_i i12)] [] s).trans rfl
set_option maxRecDepth 20000 in
theorem e_Wr_object_256 (C : c_C) (i6 : Int32) (i9 : Int32) (i10 : Int32) (t0 : Int32) (s : c_S) : b_Wr_object_256 C i6 i9 i10 t0 s =
  if i6 = 0 then
    b_Wr_object_283 C i9 i10 t0 0 s
  else
    if t0 = 0 then
      c_bd (C 154 [v_r 30] s) fun s1 x1 =>
      if x1 = 0 then
        b_Wr_object_283 C i9 i10 t0 0 s1
      else
        b_Wr_object_283 C i9 i10 t0 1 s1
    else
      b_Wr_object_283 C i9 i10 t0 1 s
  := (c_blk_eq d_CT T_Wr_object L_Wr_object 0 C 400 256 [(0, v_r 33), (6, v_i i6), (9, v_i i9), (10, v_i i10)] [v_i t0] s).trans rfl
set_option maxRecDepth 20000 in
theorem e_Wr_object_103 (C : c_C) (i3 : Int32) (i5 : Int32) (i6 : Int32) (i7 : Int32) (i8 : Int32) (i9 : Int32) (i10 : Int32) (i11 : Int32) (i12 : Int32) (s : c_S) : b_Wr_object_103 C i3 i5 i6 i7 i8 i9 i10 i11 i12 s =
  c_bd (C 187 [v_r 24, v_i 91] s) fun s1 _ =>
  c_bd (C 173 [v_r 3, v_i i7] s1) fun s2 x2 =>
  c_bd (C 228 [v_r 33, v_i x2, v_i i8, v_i (i9 + 1), v_i i10] s2) fun s3 _ =>
  c_bd (C 187 [v_r 24, v_i 93] s3) fun s4 _ =>
  c_bd (C 173 [v_r 3, v_i i7] s4) fun s5 x5 =>
  c_bd (C 111 [v_r 19, v_i x5, v_i i8, v_i i10] s5) fun s6 x6 =>
  c_bd (C 114 [v_r 19, v_i i11, v_i x6] s6) fun s7 x7 =>
  b_Wr_object_177 C i3 i5 i6 i7 i8 i9 i10 x7 i12 x6 s7
  := (c_blk_eq d_CT T_Wr_object L_Wr_object 0 C 400 103 [(0, v_r 33), (3, v_i i3), (5, v_i i5), (6, v_i i6), (7, v_i i7), (8, v_i i8), (9, v_i i9), (10, v_i i10), (11, v_i i11), (12, v_i i12)] [] s).trans rfl
set_option maxRecDepth 20000 in
theorem e_Wr_object_283 (C : c_C) (i9 : Int32) (i10 : Int32) (i12 : Int32) (t0 : Int32) (s : c_S) : b_Wr_object_283 C i9 i10 i12 t0 s =
  if t0 = 0 then
    b_Wr_object_304 C i9 i10 t0 s
  else
    if i12 = 0 then
      c_bd (C 187 [v_r 24, v_i 40] s) fun s1 _ =>
      b_Wr_object_304 C i9 i10 t0 s1
    else
      b_Wr_object_304 C i9 i10 t0 s
  := (c_blk_eq d_CT T_Wr_object L_Wr_object 0 C 400 283 [(0, v_r 33), (9, v_i i9), (10, v_i i10), (12, v_i i12)] [v_i t0] s).trans rfl
set_option maxRecDepth 20000 in
theorem e_Wr_object_177 (C : c_C) (i3 : Int32) (i5 : Int32) (i6 : Int32) (i7 : Int32) (i8 : Int32) (i9 : Int32) (i10 : Int32) (i11 : Int32) (i12 : Int32) (i13 : Int32) (s : c_S) : b_Wr_object_177 C i3 i5 i6 i7 i8 i9 i10 i11 i12 i13 s =
  c_bd (C 113 [v_r 19, v_i i7, v_i i8, v_i i13] s) fun s1 x1 =>
  c_bd (C 174 [v_r 3, v_i i7] s1) fun s2 x2 =>
  b_Wr_object_209 C i3 i5 i6 x2 x1 (i9 + 1) (i10 + 1) i11 i12 s2
  := (c_blk_eq d_CT T_Wr_object L_Wr_object 0 C 400 177 [(0, v_r 33), (3, v_i i3), (5, v_i i5), (6, v_i i6), (7, v_i i7), (8, v_i i8), (9, v_i i9), (10, v_i i10), (11, v_i i11), (12, v_i i12), (13, v_i i13)] [] s).trans rfl
set_option maxRecDepth 20000 in
theorem e_Wr_object_304 (C : c_C) (i9 : Int32) (i10 : Int32) (i13 : Int32) (s : c_S) : b_Wr_object_304 C i9 i10 i13 s =
  c_bd (C 153 [v_r 30] s) fun s1 x1 =>
  c_bd (C 230 [v_r 33, v_i x1] s1) fun s2 _ =>
  c_bd (C 155 [v_r 30] s2) fun s3 x3 =>
  c_bd (C 156 [v_r 30] s3) fun s4 x4 =>
  c_bd (C 154 [v_r 30] s4) fun s5 x5 =>
  c_bd (C 231 [v_r 33, v_i x3, v_i x4, v_i x5, v_i (i9 + 1), v_i i10] s5) fun s6 _ =>
  if i13 = 0 then
    some (s6, 0)
  else
    c_bd (C 187 [v_r 24, v_i 41] s6) fun s7 _ =>
    some (s7, 0)
  := (c_blk_eq d_CT T_Wr_object L_Wr_object 0 C 400 304 [(0, v_r 33), (9, v_i i9), (10, v_i i10), (13, v_i i13)] [] s).trans rfl
set_option maxRecDepth 20000 in
theorem e_Wr_object_209 (C : c_C) (i3 : Int32) (i5 : Int32) (i6 : Int32) (i7 : Int32) (i8 : Int32) (i9 : Int32) (i10 : Int32) (i11 : Int32) (i12 : Int32) (s : c_S) : b_Wr_object_209 C i3 i5 i6 i7 i8 i9 i10 i11 i12 s =
  b_Wr_object_20 C i3 i5 i6 i7 i8 i9 i10 i11 (i12 + 1) s
  := (c_blk_eq d_CT T_Wr_object L_Wr_object 0 C 400 209 [(0, v_r 33), (3, v_i i3), (5, v_i i5), (6, v_i i6), (7, v_i i7), (8, v_i i8), (9, v_i i9), (10, v_i i10), (11, v_i i11), (12, v_i i12)] [] s).trans rfl
theorem m_Wr_object (d : Nat) (i1 : Int32) (i2 : Int32) (i3 : Int32) (i4 : Int32) (i5 : Int32) (i6 : Int32) (s : c_S) : c_M (d + 1) 229 [v_r 33, v_i i1, v_i i2, v_i i3, v_i i4, v_i i5, v_i i6] s = b_Wr_object_0 (c_M d) i1 i2 i3 i4 i5 i6 s := rfl
set_option maxRecDepth 20000 in
theorem e_Wr_putHead_0 (C : c_C) (i1 : Int32) (s : c_S) : b_Wr_putHead_0 C i1 s =
  if i1 < 0 then
    c_bd (C 112 [v_r 19, v_i (-i1)] s) fun s1 x1 =>
    c_bd (C 233 [v_r 33, v_i x1] s1) fun s2 _ =>
    some (s2, 0)
  else
    c_bd (C 232 [v_r 33, v_i i1] s) fun s3 _ =>
    some (s3, 0)
  := (c_blk_eq d_CT T_Wr_putHead L_Wr_putHead 0 C 400 0 [(0, v_r 33), (1, v_i i1)] [] s).trans rfl
theorem m_Wr_putHead (d : Nat) (i1 : Int32) (s : c_S) : c_M (d + 1) 230 [v_r 33, v_i i1] s = b_Wr_putHead_0 (c_M d) i1 s := rfl
set_option maxRecDepth 20000 in
theorem e_Wr_objects_0 (C : c_C) (i1 : Int32) (i2 : Int32) (i3 : Int32) (i4 : Int32) (i5 : Int32) (s : c_S) : b_Wr_objects_0 C i1 i2 i3 i4 i5 s =
  b_Wr_objects_12 C i4 i5 i1 i2 i3 0 s
  := (c_blk_eq d_CT T_Wr_objects L_Wr_objects 0 C 400 0 [(0, v_r 33), (1, v_i i1), (2, v_i i2), (3, v_i i3), (4, v_i i4), (5, v_i i5)] [] s).trans rfl
set_option maxRecDepth 20000 in
theorem e_Wr_objects_12 (C : c_C) (i4 : Int32) (i5 : Int32) (i6 : Int32) (i7 : Int32) (i8 : Int32) (i9 : Int32) (s : c_S) : b_Wr_objects_12 C i4 i5 i6 i7 i8 i9 s =
  if i9 < 32768 then
    if i8 = 0 then
      some (s, 0)
    else
      c_bd (C 164 [v_r 18] s) fun s1 x1 =>
      if x1 = 0 then
        c_bd (C 107 [v_r 19, v_i i8] s1) fun s2 x2 =>
        c_bd (C 102 [v_r 19] s2) fun s3 x3 =>
        b_Wr_objects_54 C i4 i5 i6 i7 i8 i9 x2 x3 s3
      else
        some (s1, 0)
  else
    some (s, 0)
  := (c_blk_eq d_CT T_Wr_objects L_Wr_objects 0 C 400 12 [(0, v_r 33), (4, v_i i4), (5, v_i i5), (6, v_i i6), (7, v_i i7), (8, v_i i8), (9, v_i i9)] [] s).trans rfl
set_option maxRecDepth 20000 in
theorem e_Wr_objects_54 (C : c_C) (i4 : Int32) (i5 : Int32) (i6 : Int32) (i7 : Int32) (i8 : Int32) (i9 : Int32) (i10 : Int32) (i11 : Int32) (s : c_S) : b_Wr_objects_54 C i4 i5 i6 i7 i8 i9 i10 i11 s =
  c_bd (C 187 [v_r 24, v_i 32] s) fun s1 _ =>
  c_bd (C 173 [v_r 3, v_i i6] s1) fun s2 x2 =>
  c_bd (C 229 [v_r 33, v_i x2, v_i i7, v_i i8, v_i i4, v_i i5, v_i 1] s2) fun s3 _ =>
  c_bd (C 103 [v_r 19, v_i i11] s3) fun s4 _ =>
  c_bd (C 110 [v_r 19, v_i i8, v_i i6, v_i i7] s4) fun s5 x5 =>
  c_bd (C 174 [v_r 3, v_i i6] s5) fun s6 x6 =>
  b_Wr_objects_120 C i4 i5 x6 x5 i9 i10 s6
  := (c_blk_eq d_CT T_Wr_objects L_Wr_objects 0 C 400 54 [(0, v_r 33), (4, v_i i4), (5, v_i i5), (6, v_i i6), (7, v_i i7), (8, v_i i8), (9, v_i i9), (10, v_i i10), (11, v_i i11)] [] s).trans rfl
set_option maxRecDepth 20000 in
theorem e_Wr_objects_120 (C : c_C) (i4 : Int32) (i5 : Int32) (i6 : Int32) (i7 : Int32) (i9 : Int32) (i10 : Int32) (s : c_S) : b_Wr_objects_120 C i4 i5 i6 i7 i9 i10 s =
  b_Wr_objects_12 C i4 i5 i6 i7 i10 (i9 + 1) s
  := (c_blk_eq d_CT T_Wr_objects L_Wr_objects 0 C 400 120 [(0, v_r 33), (4, v_i i4), (5, v_i i5), (6, v_i i6), (7, v_i i7), (9, v_i i9), (10, v_i i10)] [] s).trans rfl
theorem m_Wr_objects (d : Nat) (i1 : Int32) (i2 : Int32) (i3 : Int32) (i4 : Int32) (i5 : Int32) (s : c_S) : c_M (d + 1) 231 [v_r 33, v_i i1, v_i i2, v_i i3, v_i i4, v_i i5] s = b_Wr_objects_0 (c_M d) i1 i2 i3 i4 i5 s := rfl
set_option maxRecDepth 20000 in
theorem e_Wr_putName_0 (C : c_C) (i1 : Int32) (s : c_S) : b_Wr_putName_0 C i1 s =
  b_Wr_putName_2 C i1 0 s
  := (c_blk_eq d_CT T_Wr_putName L_Wr_putName 0 C 400 0 [(0, v_r 33), (1, v_i i1)] [] s).trans rfl
set_option maxRecDepth 20000 in
theorem e_Wr_putName_2 (C : c_C) (i1 : Int32) (i2 : Int32) (s : c_S) : b_Wr_putName_2 C i1 i2 s =
  c_bd (C 136 [v_r 11, v_i i1] s) fun s1 x1 =>
  if i2 < x1 then
    c_bd (C 137 [v_r 11, v_i i1, v_i i2] s1) fun s2 x2 =>
    c_bd (C 187 [v_r 24, v_i x2] s2) fun s3 _ =>
    b_Wr_putName_2 C i1 (i2 + 1) s3
  else
    some (s1, 0)
  := (c_blk_eq d_CT T_Wr_putName L_Wr_putName 0 C 400 2 [(0, v_r 33), (1, v_i i1), (2, v_i i2)] [] s).trans rfl
theorem m_Wr_putName (d : Nat) (i1 : Int32) (s : c_S) : c_M (d + 1) 232 [v_r 33, v_i i1] s = b_Wr_putName_0 (c_M d) i1 s := rfl
set_option maxRecDepth 20000 in
theorem e_Wr_putVariable_0 (C : c_C) (i1 : Int32) (s : c_S) : b_Wr_putVariable_0 C i1 s =
  b_Wr_putVariable_2 C i1 0 s
  := (c_blk_eq d_CT T_Wr_putVariable L_Wr_putVariable 0 C 400 0 [(0, v_r 33), (1, v_i i1)] [] s).trans rfl
set_option maxRecDepth 20000 in
theorem e_Wr_putVariable_2 (C : c_C) (i1 : Int32) (i2 : Int32) (s : c_S) : b_Wr_putVariable_2 C i1 i2 s =
  if i2 < s.1 33 6 then
    c_bd (C 187 [v_r 24, v_i 120] s) fun s1 _ =>
    b_Wr_putVariable_2 C i1 (i2 + 1) s1
  else
    if i1 < 10 then
      b_Wr_putVariable_48 C i1 s
    else
      c_bd (C 187 [v_r 24, v_i ((48 : Int32) + ((i1 / 10) - (i1 / 10) / 10 * 10))] s) fun s2 _ =>
      b_Wr_putVariable_48 C i1 s2
  := (c_blk_eq d_CT T_Wr_putVariable L_Wr_putVariable 0 C 400 2 [(0, v_r 33), (1, v_i i1), (2, v_i i2)] [] s).trans rfl
set_option maxRecDepth 20000 in
theorem e_Wr_putVariable_48 (C : c_C) (i1 : Int32) (s : c_S) : b_Wr_putVariable_48 C i1 s =
  c_bd (C 187 [v_r 24, v_i ((48 : Int32) + (i1 - i1 / 10 * 10))] s) fun s1 _ =>
  some (s1, 0)
  := (c_blk_eq d_CT T_Wr_putVariable L_Wr_putVariable 0 C 400 48 [(0, v_r 33), (1, v_i i1)] [] s).trans rfl
theorem m_Wr_putVariable (d : Nat) (i1 : Int32) (s : c_S) : c_M (d + 1) 233 [v_r 33, v_i i1] s = b_Wr_putVariable_0 (c_M d) i1 s := rfl
