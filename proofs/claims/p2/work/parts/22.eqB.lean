noncomputable def b_Co_number_0 (C : c_C)  (s : c_S) : c_R := c_run d_CT T_Co_number L_Co_number 1 C 0 [(0, v_r 11)] [] s
noncomputable def b_Co_full_0 (C : c_C)  (s : c_S) : c_R := c_run d_CT T_Co_full L_Co_full 2 C 0 [(0, v_r 11)] [] s
noncomputable def b_Co_sort_0 (C : c_C) (i1 : Int32) (s : c_S) : c_R := c_run d_CT T_Co_sort L_Co_sort 1 C 0 [(0, v_r 11), (1, v_i i1)] [] s
noncomputable def b_Co_typeRoot_0 (C : c_C) (i1 : Int32) (s : c_S) : c_R := c_run d_CT T_Co_typeRoot L_Co_typeRoot 1 C 0 [(0, v_r 11), (1, v_i i1)] [] s
noncomputable def b_Co_bodyRoot_0 (C : c_C) (i1 : Int32) (s : c_S) : c_R := c_run d_CT T_Co_bodyRoot L_Co_bodyRoot 1 C 0 [(0, v_r 11), (1, v_i i1)] [] s
noncomputable def b_Co_wanted_0 (C : c_C) (i1 : Int32) (s : c_S) : c_R := c_run d_CT T_Co_wanted L_Co_wanted 1 C 0 [(0, v_r 11), (1, v_i i1)] [] s
noncomputable def b_Co_wanted_8 (C : c_C) (i2 : Int32) (i3 : Int32) (s : c_S) : c_R := c_run d_CT T_Co_wanted L_Co_wanted 1 C 8 [(0, v_r 11), (2, v_i i2), (3, v_i i3)] [] s
noncomputable def b_Co_nameLength_0 (C : c_C) (i1 : Int32) (s : c_S) : c_R := c_run d_CT T_Co_nameLength L_Co_nameLength 1 C 0 [(0, v_r 11), (1, v_i i1)] [] s
noncomputable def b_Co_nameSign_0 (C : c_C) (i1 : Int32) (i2 : Int32) (s : c_S) : c_R := c_run d_CT T_Co_nameSign L_Co_nameSign 1 C 0 [(0, v_r 11), (1, v_i i1), (2, v_i i2)] [] s
noncomputable def b_Co_name_0 (C : c_C) (i2 : Int32) (i3 : Int32) (s : c_S) : c_R := c_run d_CT T_Co_name L_Co_name 0 C 0 [(0, v_r 11), (1, v_r 1), (2, v_i i2), (3, v_i i3)] [] s
noncomputable def b_Co_name_29 (C : c_C) (i2 : Int32) (i3 : Int32) (i4 : Int32) (i5 : Int32) (s : c_S) : c_R := c_run d_CT T_Co_name L_Co_name 0 C 29 [(0, v_r 11), (1, v_r 1), (2, v_i i2), (3, v_i i3), (4, v_i i4), (5, v_i i5)] [] s
noncomputable def b_Co_add_0 (C : c_C) (i1 : Int32) (i2 : Int32) (i3 : Int32) (i4 : Int32) (s : c_S) : c_R := c_run d_CT T_Co_add L_Co_add 0 C 0 [(0, v_r 11), (1, v_i i1), (2, v_i i2), (3, v_i i3), (4, v_i i4)] [] s
noncomputable def b_Co_drop_0 (C : c_C) (i1 : Int32) (s : c_S) : c_R := c_run d_CT T_Co_drop L_Co_drop 0 C 0 [(0, v_r 11), (1, v_i i1)] [] s
noncomputable def b_Co_find_0 (C : c_C) (i2 : Int32) (i3 : Int32) (s : c_S) : c_R := c_run d_CT T_Co_find L_Co_find 1 C 0 [(0, v_r 11), (1, v_r 1), (2, v_i i2), (3, v_i i3)] [] s
noncomputable def b_Co_find_3 (C : c_C) (i2 : Int32) (i3 : Int32) (i4 : Int32) (s : c_S) : c_R := c_run d_CT T_Co_find L_Co_find 1 C 3 [(0, v_r 11), (1, v_r 1), (2, v_i i2), (3, v_i i3), (4, v_i i4)] [] s
noncomputable def b_Co_isNamed_0 (C : c_C) (i1 : Int32) (i3 : Int32) (s : c_S) : c_R := c_run d_CT T_Co_isNamed L_Co_isNamed 2 C 0 [(0, v_r 11), (1, v_i i1), (2, v_r 1), (3, v_i i3)] [] s
noncomputable def b_Co_isNamed_3 (C : c_C) (i1 : Int32) (i3 : Int32) (i4 : Int32) (s : c_S) : c_R := c_run d_CT T_Co_isNamed L_Co_isNamed 2 C 3 [(0, v_r 11), (1, v_i i1), (2, v_r 1), (3, v_i i3), (4, v_i i4)] [] s
noncomputable def b_Co_fewestXs_0 (C : c_C)  (s : c_S) : c_R := c_run d_CT T_Co_fewestXs L_Co_fewestXs 1 C 0 [(0, v_r 11)] [] s
noncomputable def b_Co_fewestXs_2 (C : c_C) (i1 : Int32) (s : c_S) : c_R := c_run d_CT T_Co_fewestXs L_Co_fewestXs 1 C 2 [(0, v_r 11), (1, v_i i1)] [] s
noncomputable def b_Co_anyIsXsAndNumber_0 (C : c_C) (i1 : Int32) (s : c_S) : c_R := c_run d_CT T_Co_anyIsXsAndNumber L_Co_anyIsXsAndNumber 2 C 0 [(0, v_r 11), (1, v_i i1)] [] s
noncomputable def b_Co_anyIsXsAndNumber_2 (C : c_C) (i1 : Int32) (i2 : Int32) (s : c_S) : c_R := c_run d_CT T_Co_anyIsXsAndNumber L_Co_anyIsXsAndNumber 2 C 2 [(0, v_r 11), (1, v_i i1), (2, v_i i2)] [] s
noncomputable def b_Co_isXsAndNumber_0 (C : c_C) (i1 : Int32) (i2 : Int32) (s : c_S) : c_R := c_run d_CT T_Co_isXsAndNumber L_Co_isXsAndNumber 2 C 0 [(0, v_r 11), (1, v_i i1), (2, v_i i2)] [] s
noncomputable def b_Co_isXsAndNumber_16 (C : c_C) (i1 : Int32) (i2 : Int32) (i3 : Int32) (i4 : Int32) (s : c_S) : c_R := c_run d_CT T_Co_isXsAndNumber L_Co_isXsAndNumber 2 C 16 [(0, v_r 11), (1, v_i i1), (2, v_i i2), (3, v_i i3), (4, v_i i4)] [] s
noncomputable def b_Ma_shape_0 (C : c_C)  (s : c_S) : c_R := c_run d_CT T_Ma_shape L_Ma_shape 1 C 0 [(0, v_r 30)] [] s
noncomputable def b_Ma_shapeScope_0 (C : c_C)  (s : c_S) : c_R := c_run d_CT T_Ma_shapeScope L_Ma_shapeScope 1 C 0 [(0, v_r 30)] [] s
noncomputable def b_Ma_head_0 (C : c_C)  (s : c_S) : c_R := c_run d_CT T_Ma_head L_Ma_head 1 C 0 [(0, v_r 30)] [] s
noncomputable def b_Ma_row_0 (C : c_C)  (s : c_S) : c_R := c_run d_CT T_Ma_row L_Ma_row 1 C 0 [(0, v_r 30)] [] s
noncomputable def b_Ma_headType_0 (C : c_C)  (s : c_S) : c_R := c_run d_CT T_Ma_headType L_Ma_headType 1 C 0 [(0, v_r 30)] [] s
noncomputable def b_Ma_headTypeScope_0 (C : c_C)  (s : c_S) : c_R := c_run d_CT T_Ma_headTypeScope L_Ma_headTypeScope 1 C 0 [(0, v_r 30)] [] s
noncomputable def b_Ma_push_0 (C : c_C) (i1 : Int32) (i2 : Int32) (i3 : Int32) (s : c_S) : c_R := c_run d_CT T_Ma_push L_Ma_push 1 C 0 [(0, v_r 30), (1, v_i i1), (2, v_i i2), (3, v_i i3)] [] s
noncomputable def b_Ma_push_19 (C : c_C) (i2 : Int32) (i3 : Int32) (i4 : Int32) (i5 : Int32) (i6 : Int32) (i7 : Int32) (s : c_S) : c_R := c_run d_CT T_Ma_push L_Ma_push 1 C 19 [(0, v_r 30), (2, v_i i2), (3, v_i i3), (4, v_i i4), (5, v_i i5), (6, v_i i6), (7, v_i i7)] [] s
noncomputable def b_Ma_push_169 (C : c_C) (i3 : Int32) (i4 : Int32) (i5 : Int32) (s : c_S) : c_R := c_run d_CT T_Ma_push L_Ma_push 1 C 169 [(0, v_r 30), (3, v_i i3), (4, v_i i4), (5, v_i i5)] [] s
noncomputable def b_Ma_push_50 (C : c_C) (i2 : Int32) (i3 : Int32) (i4 : Int32) (i5 : Int32) (i6 : Int32) (i7 : Int32) (t0 : Int32) (s : c_S) : c_R := c_run d_CT T_Ma_push L_Ma_push 1 C 50 [(0, v_r 30), (2, v_i i2), (3, v_i i3), (4, v_i i4), (5, v_i i5), (6, v_i i6), (7, v_i i7)] [v_i t0] s
noncomputable def b_Ma_push_78 (C : c_C) (i2 : Int32) (i3 : Int32) (i4 : Int32) (i5 : Int32) (i6 : Int32) (i7 : Int32) (i8 : Int32) (t0 : Int32) (s : c_S) : c_R := c_run d_CT T_Ma_push L_Ma_push 1 C 78 [(0, v_r 30), (2, v_i i2), (3, v_i i3), (4, v_i i4), (5, v_i i5), (6, v_i i6), (7, v_i i7), (8, v_i i8)] [v_i t0] s
noncomputable def b_Ma_push_123 (C : c_C) (i2 : Int32) (i3 : Int32) (i4 : Int32) (i5 : Int32) (i6 : Int32) (i7 : Int32) (t0 : Int32) (s : c_S) : c_R := c_run d_CT T_Ma_push L_Ma_push 1 C 123 [(0, v_r 30), (2, v_i i2), (3, v_i i3), (4, v_i i4), (5, v_i i5), (6, v_i i6), (7, v_i i7)] [v_i t0] s
noncomputable def b_Ma_push_148 (C : c_C) (i2 : Int32) (i3 : Int32) (i4 : Int32) (i6 : Int32) (i7 : Int32) (i10 : Int32) (s : c_S) : c_R := c_run d_CT T_Ma_push L_Ma_push 1 C 148 [(0, v_r 30), (2, v_i i2), (3, v_i i3), (4, v_i i4), (6, v_i i6), (7, v_i i7), (10, v_i i10)] [] s
noncomputable def b_Ma_expose_0 (C : c_C) (i1 : Int32) (i2 : Int32) (s : c_S) : c_R := c_run d_CT T_Ma_expose L_Ma_expose 0 C 0 [(0, v_r 30), (1, v_i i1), (2, v_i i2)] [] s
noncomputable def b_Ma_expose_11 (C : c_C) (i3 : Int32) (i4 : Int32) (i5 : Int32) (i6 : Int32) (s : c_S) : c_R := c_run d_CT T_Ma_expose L_Ma_expose 0 C 11 [(0, v_r 30), (3, v_i i3), (4, v_i i4), (5, v_i i5), (6, v_i i6)] [] s
noncomputable def b_Ma_expose_196 (C : c_C) (i3 : Int32) (i4 : Int32) (i5 : Int32) (i6 : Int32) (s : c_S) : c_R := c_run d_CT T_Ma_expose L_Ma_expose 0 C 196 [(0, v_r 30), (3, v_i i3), (4, v_i i4), (5, v_i i5), (6, v_i i6)] [] s
noncomputable def b_Ma_expose_83 (C : c_C) (i5 : Int32) (i6 : Int32) (i8 : Int32) (s : c_S) : c_R := c_run d_CT T_Ma_expose L_Ma_expose 0 C 83 [(0, v_r 30), (5, v_i i5), (6, v_i i6), (8, v_i i8)] [] s
noncomputable def b_Ma_expose_136 (C : c_C) (i3 : Int32) (i5 : Int32) (i6 : Int32) (s : c_S) : c_R := c_run d_CT T_Ma_expose L_Ma_expose 0 C 136 [(0, v_r 30), (3, v_i i3), (5, v_i i5), (6, v_i i6)] [] s
noncomputable def b_Ma_expose_202 (C : c_C) (i3 : Int32) (i4 : Int32) (s : c_S) : c_R := c_run d_CT T_Ma_expose L_Ma_expose 0 C 202 [(0, v_r 30), (3, v_i i3), (4, v_i i4)] [] s
noncomputable def b_Ma_expose_158 (C : c_C) (i3 : Int32) (i4 : Int32) (i5 : Int32) (i6 : Int32) (s : c_S) : c_R := c_run d_CT T_Ma_expose L_Ma_expose 0 C 158 [(0, v_r 30), (3, v_i i3), (4, v_i i4), (5, v_i i5), (6, v_i i6)] [] s
noncomputable def b_Ma_expose_207 (C : c_C) (i4 : Int32) (s : c_S) : c_R := c_run d_CT T_Ma_expose L_Ma_expose 0 C 207 [(0, v_r 30), (4, v_i i4)] [] s
noncomputable def b_Ma_expose_192 (C : c_C) (i3 : Int32) (i4 : Int32) (i6 : Int32) (i8 : Int32) (s : c_S) : c_R := c_run d_CT T_Ma_expose L_Ma_expose 0 C 192 [(0, v_r 30), (3, v_i i3), (4, v_i i4), (6, v_i i6), (8, v_i i8)] [] s
noncomputable def b_Ma_headForm_0 (C : c_C) (i1 : Int32) (i2 : Int32) (i3 : Int32) (s : c_S) : c_R := c_run d_CT T_Ma_headForm L_Ma_headForm 2 C 0 [(0, v_r 30), (1, v_i i1), (2, v_i i2), (3, v_i i3)] [] s
noncomputable def b_Ma_headForm_21 (C : c_C) (i4 : Int32) (i5 : Int32) (i6 : Int32) (s : c_S) : c_R := c_run d_CT T_Ma_headForm L_Ma_headForm 2 C 21 [(0, v_r 30), (4, v_i i4), (5, v_i i5), (6, v_i i6)] [] s
noncomputable def b_Ma_headForm_299 (C : c_C) (i4 : Int32) (i5 : Int32) (i6 : Int32) (s : c_S) : c_R := c_run d_CT T_Ma_headForm L_Ma_headForm 2 C 299 [(0, v_r 30), (4, v_i i4), (5, v_i i5), (6, v_i i6)] [] s
noncomputable def b_Ma_headForm_107 (C : c_C) (i6 : Int32) (i8 : Int32) (s : c_S) : c_R := c_run d_CT T_Ma_headForm L_Ma_headForm 2 C 107 [(0, v_r 30), (6, v_i i6), (8, v_i i8)] [] s
noncomputable def b_Ma_headForm_207 (C : c_C) (i4 : Int32) (i6 : Int32) (i7 : Int32) (s : c_S) : c_R := c_run d_CT T_Ma_headForm L_Ma_headForm 2 C 207 [(0, v_r 30), (4, v_i i4), (6, v_i i6), (7, v_i i7)] [] s
noncomputable def b_Ma_headForm_145 (C : c_C) (i4 : Int32) (i5 : Int32) (i6 : Int32) (s : c_S) : c_R := c_run d_CT T_Ma_headForm L_Ma_headForm 2 C 145 [(0, v_r 30), (4, v_i i4), (5, v_i i5), (6, v_i i6)] [] s
noncomputable def b_Ma_headForm_319 (C : c_C) (t0 : Int32) (s : c_S) : c_R := c_run d_CT T_Ma_headForm L_Ma_headForm 2 C 319 [(0, v_r 30)] [v_i t0, v_r 30] s
noncomputable def b_Ma_headForm_258 (C : c_C) (i4 : Int32) (i7 : Int32) (s : c_S) : c_R := c_run d_CT T_Ma_headForm L_Ma_headForm 2 C 258 [(0, v_r 30), (4, v_i i4), (7, v_i i7)] [] s
noncomputable def b_Ma_headForm_252 (C : c_C) (i4 : Int32) (i6 : Int32) (s : c_S) : c_R := c_run d_CT T_Ma_headForm L_Ma_headForm 2 C 252 [(0, v_r 30), (4, v_i i4), (6, v_i i6)] [] s
noncomputable def b_Ma_headForm_198 (C : c_C) (i4 : Int32) (i5 : Int32) (i6 : Int32) (i8 : Int32) (s : c_S) : c_R := c_run d_CT T_Ma_headForm L_Ma_headForm 2 C 198 [(0, v_r 30), (4, v_i i4), (5, v_i i5), (6, v_i i6), (8, v_i i8)] [] s
noncomputable def b_Ma_headForm_280 (C : c_C) (t0 : Int32) (s : c_S) : c_R := c_run d_CT T_Ma_headForm L_Ma_headForm 2 C 280 [(0, v_r 30)] [v_i t0, v_r 30] s
noncomputable def b_Ma_isDefinition_0 (C : c_C) (i1 : Int32) (s : c_S) : c_R := c_run d_CT T_Ma_isDefinition L_Ma_isDefinition 2 C 0 [(0, v_r 30), (1, v_i i1)] [] s
noncomputable def b_Re_begin_0 (C : c_C)  (s : c_S) : c_R := c_run d_CT T_Re_begin L_Re_begin 0 C 0 [(0, v_r 27)] [] s
noncomputable def b_Re_fault_0 (C : c_C)  (s : c_S) : c_R := c_run d_CT T_Re_fault L_Re_fault 1 C 0 [(0, v_r 27)] [] s
noncomputable def b_Re_namePlace_0 (C : c_C)  (s : c_S) : c_R := c_run d_CT T_Re_namePlace L_Re_namePlace 1 C 0 [(0, v_r 27)] [] s
noncomputable def b_Re_nameLength_0 (C : c_C)  (s : c_S) : c_R := c_run d_CT T_Re_nameLength L_Re_nameLength 1 C 0 [(0, v_r 27)] [] s
noncomputable def b_Re_typeRoot_0 (C : c_C)  (s : c_S) : c_R := c_run d_CT T_Re_typeRoot L_Re_typeRoot 1 C 0 [(0, v_r 27)] [] s
noncomputable def b_Re_bodyRoot_0 (C : c_C)  (s : c_S) : c_R := c_run d_CT T_Re_bodyRoot L_Re_bodyRoot 1 C 0 [(0, v_r 27)] [] s
noncomputable def b_Re_faultOfDeclaration_0 (C : c_C)  (s : c_S) : c_R := c_run d_CT T_Re_faultOfDeclaration L_Re_faultOfDeclaration 1 C 0 [(0, v_r 27)] [] s
noncomputable def b_Re_faultOfDeclaration_49 (C : c_C)  (s : c_S) : c_R := c_run d_CT T_Re_faultOfDeclaration L_Re_faultOfDeclaration 1 C 49 [(0, v_r 27)] [] s
noncomputable def b_Re_faultOfDeclaration_57 (C : c_C)  (s : c_S) : c_R := c_run d_CT T_Re_faultOfDeclaration L_Re_faultOfDeclaration 1 C 57 [(0, v_r 27)] [] s
noncomputable def b_Re_expressionBefore_0 (C : c_C) (i1 : Int32) (s : c_S) : c_R := c_run d_CT T_Re_expressionBefore L_Re_expressionBefore 1 C 0 [(0, v_r 27), (1, v_i i1)] [] s
noncomputable def b_Re_readNewName_0 (C : c_C)  (s : c_S) : c_R := c_run d_CT T_Re_readNewName L_Re_readNewName 0 C 0 [(0, v_r 27)] [] s
noncomputable def b_Re_readNewName_93 (C : c_C)  (s : c_S) : c_R := c_run d_CT T_Re_readNewName L_Re_readNewName 0 C 93 [(0, v_r 27)] [] s
noncomputable def b_Re_readNewName_84 (C : c_C)  (s : c_S) : c_R := c_run d_CT T_Re_readNewName L_Re_readNewName 0 C 84 [(0, v_r 27)] [] s
noncomputable def b_Re_take_0 (C : c_C) (i1 : Int32) (s : c_S) : c_R := c_run d_CT T_Re_take L_Re_take 0 C 0 [(0, v_r 27), (1, v_i i1)] [] s
noncomputable def b_Re_refuse_0 (C : c_C) (i1 : Int32) (s : c_S) : c_R := c_run d_CT T_Re_refuse L_Re_refuse 1 C 0 [(0, v_r 27), (1, v_i i1)] [] s
noncomputable def b_Re_wholeExpression_0 (C : c_C)  (s : c_S) : c_R := c_run d_CT T_Re_wholeExpression L_Re_wholeExpression 1 C 0 [(0, v_r 27)] [] s
noncomputable def b_Re_expression_0 (C : c_C) (i1 : Int32) (s : c_S) : c_R := c_run d_CT T_Re_expression L_Re_expression 1 C 0 [(0, v_r 27), (1, v_i i1)] [] s
noncomputable def b_Re_expression_34 (C : c_C) (i1 : Int32) (t0 : Int32) (s : c_S) : c_R := c_run d_CT T_Re_expression L_Re_expression 1 C 34 [(0, v_r 27), (1, v_i i1)] [v_i t0] s
noncomputable def b_Re_expression_52 (C : c_C) (i1 : Int32) (i3 : Int32) (s : c_S) : c_R := c_run d_CT T_Re_expression L_Re_expression 1 C 52 [(0, v_r 27), (1, v_i i1), (3, v_i i3)] [] s
noncomputable def b_Re_binding_0 (C : c_C) (i1 : Int32) (s : c_S) : c_R := c_run d_CT T_Re_binding L_Re_binding 1 C 0 [(0, v_r 27), (1, v_i i1)] [] s
noncomputable def b_Re_binding_17 (C : c_C) (i1 : Int32) (t0 : Int32) (s : c_S) : c_R := c_run d_CT T_Re_binding L_Re_binding 1 C 17 [(0, v_r 27), (1, v_i i1)] [v_i t0] s
noncomputable def b_Re_binding_51 (C : c_C) (i1 : Int32) (i2 : Int32) (i3 : Int32) (i4 : Int32) (s : c_S) : c_R := c_run d_CT T_Re_binding L_Re_binding 1 C 51 [(0, v_r 27), (1, v_i i1), (2, v_i i2), (3, v_i i3), (4, v_i i4)] [] s
noncomputable def b_Re_binding_92 (C : c_C) (i1 : Int32) (i2 : Int32) (i3 : Int32) (i4 : Int32) (i5 : Int32) (i6 : Int32) (t0 : Int32) (s : c_S) : c_R := c_run d_CT T_Re_binding L_Re_binding 1 C 92 [(0, v_r 27), (1, v_i i1), (2, v_i i2), (3, v_i i3), (4, v_i i4), (5, v_i i5), (6, v_i i6)] [v_i t0, v_r 27] s
noncomputable def b_Re_binding_126 (C : c_C) (i3 : Int32) (i6 : Int32) (i7 : Int32) (t0 : Int32) (s : c_S) : c_R := c_run d_CT T_Re_binding L_Re_binding 1 C 126 [(3, v_i i3), (6, v_i i6), (7, v_i i7)] [v_i t0, v_r 27] s
noncomputable def b_Re_arrow_0 (C : c_C) (i1 : Int32) (s : c_S) : c_R := c_run d_CT T_Re_arrow L_Re_arrow 1 C 0 [(0, v_r 27), (1, v_i i1)] [] s
noncomputable def b_Re_arrow_35 (C : c_C) (i1 : Int32) (i2 : Int32) (i3 : Int32) (s : c_S) : c_R := c_run d_CT T_Re_arrow L_Re_arrow 1 C 35 [(0, v_r 27), (1, v_i i1), (2, v_i i2), (3, v_i i3)] [] s
noncomputable def b_Re_arrow_33 (C : c_C) (i3 : Int32) (s : c_S) : c_R := c_run d_CT T_Re_arrow L_Re_arrow 1 C 33 [(3, v_i i3)] [] s
noncomputable def b_Re_arrow_76 (C : c_C) (i2 : Int32) (i3 : Int32) (i4 : Int32) (i5 : Int32) (s : c_S) : c_R := c_run d_CT T_Re_arrow L_Re_arrow 1 C 76 [(0, v_r 27), (2, v_i i2), (3, v_i i3), (4, v_i i4), (5, v_i i5)] [] s
noncomputable def b_Re_application_0 (C : c_C) (i1 : Int32) (s : c_S) : c_R := c_run d_CT T_Re_application L_Re_application 1 C 0 [(0, v_r 27), (1, v_i i1)] [] s
noncomputable def b_Re_application_16 (C : c_C) (i1 : Int32) (i2 : Int32) (i3 : Int32) (i4 : Int32) (i5 : Int32) (s : c_S) : c_R := c_run d_CT T_Re_application L_Re_application 1 C 16 [(0, v_r 27), (1, v_i i1), (2, v_i i2), (3, v_i i3), (4, v_i i4), (5, v_i i5)] [] s
noncomputable def b_Re_application_78 (C : c_C) (i2 : Int32) (i3 : Int32) (s : c_S) : c_R := c_run d_CT T_Re_application L_Re_application 1 C 78 [(0, v_r 27), (2, v_i i2), (3, v_i i3)] [] s
noncomputable def b_Re_application_68 (C : c_C) (i1 : Int32) (i2 : Int32) (i3 : Int32) (i5 : Int32) (i6 : Int32) (s : c_S) : c_R := c_run d_CT T_Re_application L_Re_application 1 C 68 [(0, v_r 27), (1, v_i i1), (2, v_i i2), (3, v_i i3), (5, v_i i5), (6, v_i i6)] [] s
noncomputable def b_Re_part_0 (C : c_C) (i1 : Int32) (s : c_S) : c_R := c_run d_CT T_Re_part L_Re_part 1 C 0 [(0, v_r 27), (1, v_i i1)] [] s
noncomputable def b_Re_part_48 (C : c_C) (i1 : Int32) (i2 : Int32) (s : c_S) : c_R := c_run d_CT T_Re_part L_Re_part 1 C 48 [(0, v_r 27), (1, v_i i1), (2, v_i i2)] [] s
noncomputable def b_Re_part_84 (C : c_C) (i2 : Int32) (s : c_S) : c_R := c_run d_CT T_Re_part L_Re_part 1 C 84 [(0, v_r 27), (2, v_i i2)] [] s
noncomputable def b_Re_part_96 (C : c_C) (i2 : Int32) (s : c_S) : c_R := c_run d_CT T_Re_part L_Re_part 1 C 96 [(0, v_r 27), (2, v_i i2)] [] s
noncomputable def b_Re_part_101 (C : c_C) (t0 : Int32) (s : c_S) : c_R := c_run d_CT T_Re_part L_Re_part 1 C 101 [(0, v_r 27)] [v_i t0] s
noncomputable def b_Re_startsPart_0 (C : c_C)  (s : c_S) : c_R := c_run d_CT T_Re_startsPart L_Re_startsPart 2 C 0 [(0, v_r 27)] [] s
noncomputable def b_Re_countPart_0 (C : c_C)  (s : c_S) : c_R := c_run d_CT T_Re_countPart L_Re_countPart 2 C 0 [(0, v_r 27)] [] s
noncomputable def b_Re_nameNode_0 (C : c_C) (i1 : Int32) (s : c_S) : c_R := c_run d_CT T_Re_nameNode L_Re_nameNode 1 C 0 [(0, v_r 27), (1, v_i i1)] [] s
noncomputable def b_Re_nameNode_23 (C : c_C) (i1 : Int32) (i2 : Int32) (i3 : Int32) (i4 : Int32) (s : c_S) : c_R := c_run d_CT T_Re_nameNode L_Re_nameNode 1 C 23 [(0, v_r 27), (1, v_i i1), (2, v_i i2), (3, v_i i3), (4, v_i i4)] [] s
noncomputable def b_Re_nameNode_105 (C : c_C) (i1 : Int32) (i4 : Int32) (t0 : Int32) (s : c_S) : c_R := c_run d_CT T_Re_nameNode L_Re_nameNode 1 C 105 [(1, v_i i1), (4, v_i i4)] [v_i t0, v_r 27] s
noncomputable def b_Re_node_0 (C : c_C) (i1 : Int32) (i2 : Int32) (i3 : Int32) (i4 : Int32) (i5 : Int32) (s : c_S) : c_R := c_run d_CT T_Re_node L_Re_node 1 C 0 [(0, v_r 27), (1, v_i i1), (2, v_i i2), (3, v_i i3), (4, v_i i4), (5, v_i i5)] [] s
noncomputable def b_Re_enterScope_0 (C : c_C) (i1 : Int32) (i2 : Int32) (s : c_S) : c_R := c_run d_CT T_Re_enterScope L_Re_enterScope 0 C 0 [(0, v_r 27), (1, v_i i1), (2, v_i i2)] [] s
noncomputable def b_Re_leaveScope_0 (C : c_C)  (s : c_S) : c_R := c_run d_CT T_Re_leaveScope L_Re_leaveScope 0 C 0 [(0, v_r 27)] [] s
set_option maxRecDepth 20000 in
theorem e_Co_number_0 (C : c_C)  (s : c_S) : b_Co_number_0 C  s =
  some (s, s.1 11 7)
  := (c_blk_eq d_CT T_Co_number L_Co_number 1 C 400 0 [(0, v_r 11)] [] s).trans rfl
theorem m_Co_number (d : Nat)  (s : c_S) : c_M (d + 1) 130 [v_r 11] s = b_Co_number_0 (c_M d)  s := rfl
set_option maxRecDepth 20000 in
theorem e_Co_full_0 (C : c_C)  (s : c_S) : b_Co_full_0 C  s =
  if s.1 11 7 < 100 then
    some (s, 0)
  else
    some (s, 1)
  := (c_blk_eq d_CT T_Co_full L_Co_full 2 C 400 0 [(0, v_r 11)] [] s).trans rfl
theorem m_Co_full (d : Nat)  (s : c_S) : c_M (d + 1) 131 [v_r 11] s = b_Co_full_0 (c_M d)  s := rfl
set_option maxRecDepth 20000 in
theorem e_Co_sort_0 (C : c_C) (i1 : Int32) (s : c_S) : b_Co_sort_0 C i1 s =
  if i1 < 0 then
    some (s, 0)
  else
    if i1 < 100 then
      c_rg i1 100 (
        some (s, s.1 14 i1.toNatClampNeg))
    else
      some (s, 0)
  := (c_blk_eq d_CT T_Co_sort L_Co_sort 1 C 400 0 [(0, v_r 11), (1, v_i i1)] [] s).trans rfl
theorem m_Co_sort (d : Nat) (i1 : Int32) (s : c_S) : c_M (d + 1) 132 [v_r 11, v_i i1] s = b_Co_sort_0 (c_M d) i1 s := rfl
set_option maxRecDepth 20000 in
theorem e_Co_typeRoot_0 (C : c_C) (i1 : Int32) (s : c_S) : b_Co_typeRoot_0 C i1 s =
  if i1 < 0 then
    some (s, 0)
  else
    if i1 < 100 then
      c_rg i1 100 (
        some (s, s.1 15 i1.toNatClampNeg))
    else
      some (s, 0)
  := (c_blk_eq d_CT T_Co_typeRoot L_Co_typeRoot 1 C 400 0 [(0, v_r 11), (1, v_i i1)] [] s).trans rfl
theorem m_Co_typeRoot (d : Nat) (i1 : Int32) (s : c_S) : c_M (d + 1) 133 [v_r 11, v_i i1] s = b_Co_typeRoot_0 (c_M d) i1 s := rfl
set_option maxRecDepth 20000 in
theorem e_Co_bodyRoot_0 (C : c_C) (i1 : Int32) (s : c_S) : b_Co_bodyRoot_0 C i1 s =
  if i1 < 0 then
    some (s, 0)
  else
    if i1 < 100 then
      c_rg i1 100 (
        some (s, s.1 16 i1.toNatClampNeg))
    else
      some (s, 0)
  := (c_blk_eq d_CT T_Co_bodyRoot L_Co_bodyRoot 1 C 400 0 [(0, v_r 11), (1, v_i i1)] [] s).trans rfl
theorem m_Co_bodyRoot (d : Nat) (i1 : Int32) (s : c_S) : c_M (d + 1) 134 [v_r 11, v_i i1] s = b_Co_bodyRoot_0 (c_M d) i1 s := rfl
set_option maxRecDepth 20000 in
theorem e_Co_wanted_0 (C : c_C) (i1 : Int32) (s : c_S) : b_Co_wanted_0 C i1 s =
  c_bd (C 133 [v_r 11, v_i i1] s) fun s1 x1 =>
  b_Co_wanted_8 C x1 0 s1
  := (c_blk_eq d_CT T_Co_wanted L_Co_wanted 1 C 400 0 [(0, v_r 11), (1, v_i i1)] [] s).trans rfl
set_option maxRecDepth 20000 in
theorem e_Co_wanted_8 (C : c_C) (i2 : Int32) (i3 : Int32) (s : c_S) : b_Co_wanted_8 C i2 i3 s =
  if i3 < 12800 then
    c_bd (C 172 [v_r 3, v_i i2] s) fun s1 x1 =>
    if x1 = 2 then
      c_bd (C 174 [v_r 3, v_i i2] s1) fun s2 x2 =>
      b_Co_wanted_8 C x2 (i3 + 1) s2
    else
      some (s1, i3)
  else
    some (s, i3)
  := (c_blk_eq d_CT T_Co_wanted L_Co_wanted 1 C 400 8 [(0, v_r 11), (2, v_i i2), (3, v_i i3)] [] s).trans rfl
theorem m_Co_wanted (d : Nat) (i1 : Int32) (s : c_S) : c_M (d + 1) 135 [v_r 11, v_i i1] s = b_Co_wanted_0 (c_M d) i1 s := rfl
set_option maxRecDepth 20000 in
theorem e_Co_nameLength_0 (C : c_C) (i1 : Int32) (s : c_S) : b_Co_nameLength_0 C i1 s =
  if i1 < 0 then
    some (s, 0)
  else
    if i1 < 100 then
      c_rg i1 100 (
        some (s, s.1 13 i1.toNatClampNeg))
    else
      some (s, 0)
  := (c_blk_eq d_CT T_Co_nameLength L_Co_nameLength 1 C 400 0 [(0, v_r 11), (1, v_i i1)] [] s).trans rfl
theorem m_Co_nameLength (d : Nat) (i1 : Int32) (s : c_S) : c_M (d + 1) 136 [v_r 11, v_i i1] s = b_Co_nameLength_0 (c_M d) i1 s := rfl
set_option maxRecDepth 20000 in
theorem e_Co_nameSign_0 (C : c_C) (i1 : Int32) (i2 : Int32) (s : c_S) : b_Co_nameSign_0 C i1 i2 s =
  if i1 < 0 then
    some (s, 0)
  else
    if i1 < s.1 11 7 then
      if (i1 * 12) + i2 < 0 then
        some (s, 0)
      else
        if (i1 * 12) + i2 < 1200 then
          c_rg ((i1 * 12) + i2) 1200 (
            some (s, s.1 12 (((i1 * 12) + i2).toNatClampNeg)))
        else
          some (s, 0)
    else
      some (s, 0)
  := (c_blk_eq d_CT T_Co_nameSign L_Co_nameSign 1 C 400 0 [(0, v_r 11), (1, v_i i1), (2, v_i i2)] [] s).trans rfl
theorem m_Co_nameSign (d : Nat) (i1 : Int32) (i2 : Int32) (s : c_S) : c_M (d + 1) 137 [v_r 11, v_i i1, v_i i2] s = b_Co_nameSign_0 (c_M d) i1 i2 s := rfl
set_option maxRecDepth 20000 in
theorem e_Co_name_0 (C : c_C) (i2 : Int32) (i3 : Int32) (s : c_S) : b_Co_name_0 C i2 i3 s =
  if s.1 11 7 < 0 then
    some (s, 0)
  else
    if s.1 11 7 < 100 then
      b_Co_name_29 C i2 i3 ((s.1 11 7) * 12) 0 s
    else
      some (s, 0)
  := (c_blk_eq d_CT T_Co_name L_Co_name 0 C 400 0 [(0, v_r 11), (1, v_r 1), (2, v_i i2), (3, v_i i3)] [] s).trans rfl
set_option maxRecDepth 20000 in
theorem e_Co_name_29 (C : c_C) (i2 : Int32) (i3 : Int32) (i4 : Int32) (i5 : Int32) (s : c_S) : b_Co_name_29 C i2 i3 i4 i5 s =
  if i5 < i3 then
    if i5 < 12 then
      c_bd (C 215 [v_r 1, v_i (i2 + i5)] s) fun s1 x1 =>
      c_rg (i4 + i5) 1200 (
        b_Co_name_29 C i2 i3 i4 (i5 + 1) (c_put s1 12 ((i4 + i5).toNatClampNeg) (vp_nar .char ((x1.toUInt32 % 65536).toInt32))))
    else
      c_rg (s.1 11 7) 100 (
        some ((c_put s 13 ((s.1 11 7).toNatClampNeg) i3), 0))
  else
    c_rg (s.1 11 7) 100 (
      some ((c_put s 13 ((s.1 11 7).toNatClampNeg) i3), 0))
  := (c_blk_eq d_CT T_Co_name L_Co_name 0 C 400 29 [(0, v_r 11), (1, v_r 1), (2, v_i i2), (3, v_i i3), (4, v_i i4), (5, v_i i5)] [] s).trans rfl
theorem m_Co_name (d : Nat) (i2 : Int32) (i3 : Int32) (s : c_S) : c_M (d + 1) 138 [v_r 11, v_r 1, v_i i2, v_i i3] s = b_Co_name_0 (c_M d) i2 i3 s := rfl
set_option maxRecDepth 20000 in
theorem e_Co_add_0 (C : c_C) (i1 : Int32) (i2 : Int32) (i3 : Int32) (i4 : Int32) (s : c_S) : b_Co_add_0 C i1 i2 i3 i4 s =
  if s.1 11 7 < 0 then
    some (s, 0)
  else
    if s.1 11 7 < 100 then
      c_rg (s.1 11 7) 100 (
        c_rg (s.1 11 7) 100 (
          c_rg (s.1 11 7) 100 (
            c_rg (s.1 11 7) 100 (
              some ((c_put (c_put (c_put (c_put (c_put s 14 ((s.1 11 7).toNatClampNeg) i1) 15 ((s.1 11 7).toNatClampNeg) i2) 16 ((s.1 11 7).toNatClampNeg) i3) 17 ((s.1 11 7).toNatClampNeg) i4) 11 7 ((s.1 11 7) + 1)), 0)))))
    else
      some (s, 0)
  := (c_blk_eq d_CT T_Co_add L_Co_add 0 C 400 0 [(0, v_r 11), (1, v_i i1), (2, v_i i2), (3, v_i i3), (4, v_i i4)] [] s).trans rfl
theorem m_Co_add (d : Nat) (i1 : Int32) (i2 : Int32) (i3 : Int32) (i4 : Int32) (s : c_S) : c_M (d + 1) 139 [v_r 11, v_i i1, v_i i2, v_i i3, v_i i4] s = b_Co_add_0 (c_M d) i1 i2 i3 i4 s := rfl
set_option maxRecDepth 20000 in
theorem e_Co_drop_0 (C : c_C) (i1 : Int32) (s : c_S) : b_Co_drop_0 C i1 s =
  if (0 : Int32) < i1 then
    if (s.1 11 7) - i1 < 0 then
      some (s, 0)
    else
      if (s.1 11 7) - i1 < 100 then
        c_rg ((s.1 11 7) - i1) 100 (
          c_bd (C 169 [v_r 3, v_i (s.1 17 (((s.1 11 7) - i1).toNatClampNeg))] (c_put s 11 7 ((s.1 11 7) - i1))) fun s1 _ =>
          some (s1, 0))
      else
        some (s, 0)
  else
    some (s, 0)
  := (c_blk_eq d_CT T_Co_drop L_Co_drop 0 C 400 0 [(0, v_r 11), (1, v_i i1)] [] s).trans rfl
theorem m_Co_drop (d : Nat) (i1 : Int32) (s : c_S) : c_M (d + 1) 140 [v_r 11, v_i i1] s = b_Co_drop_0 (c_M d) i1 s := rfl
set_option maxRecDepth 20000 in
theorem e_Co_find_0 (C : c_C) (i2 : Int32) (i3 : Int32) (s : c_S) : b_Co_find_0 C i2 i3 s =
  b_Co_find_3 C i2 i3 0 s
  := (c_blk_eq d_CT T_Co_find L_Co_find 1 C 400 0 [(0, v_r 11), (1, v_r 1), (2, v_i i2), (3, v_i i3)] [] s).trans rfl
set_option maxRecDepth 20000 in
theorem e_Co_find_3 (C : c_C) (i2 : Int32) (i3 : Int32) (i4 : Int32) (s : c_S) : b_Co_find_3 C i2 i3 i4 s =
  if i4 < s.1 11 7 then
    c_bd (C 136 [v_r 11, v_i i4] s) fun s1 x1 =>
    if x1 = i3 then
      c_bd (C 142 [v_r 11, v_i i4, v_r 1, v_i i2] s1) fun s2 x2 =>
      if x2 = 0 then
        b_Co_find_3 C i2 i3 (i4 + 1) s2
      else
        some (s2, i4)
    else
      b_Co_find_3 C i2 i3 (i4 + 1) s1
  else
    some (s, (-1))
  := (c_blk_eq d_CT T_Co_find L_Co_find 1 C 400 3 [(0, v_r 11), (1, v_r 1), (2, v_i i2), (3, v_i i3), (4, v_i i4)] [] s).trans rfl
theorem m_Co_find (d : Nat) (i2 : Int32) (i3 : Int32) (s : c_S) : c_M (d + 1) 141 [v_r 11, v_r 1, v_i i2, v_i i3] s = b_Co_find_0 (c_M d) i2 i3 s := rfl
set_option maxRecDepth 20000 in
theorem e_Co_isNamed_0 (C : c_C) (i1 : Int32) (i3 : Int32) (s : c_S) : b_Co_isNamed_0 C i1 i3 s =
  b_Co_isNamed_3 C i1 i3 0 s
  := (c_blk_eq d_CT T_Co_isNamed L_Co_isNamed 2 C 400 0 [(0, v_r 11), (1, v_i i1), (2, v_r 1), (3, v_i i3)] [] s).trans rfl
set_option maxRecDepth 20000 in
theorem e_Co_isNamed_3 (C : c_C) (i1 : Int32) (i3 : Int32) (i4 : Int32) (s : c_S) : b_Co_isNamed_3 C i1 i3 i4 s =
  c_bd (C 136 [v_r 11, v_i i1] s) fun s1 x1 =>
  if i4 < x1 then
    c_bd (C 137 [v_r 11, v_i i1, v_i i4] s1) fun s2 x2 =>
    c_bd (C 215 [v_r 1, v_i (i3 + i4)] s2) fun s3 x3 =>
    if x2 = x3 then
      b_Co_isNamed_3 C i1 i3 (i4 + 1) s3
    else
      some (s3, 0)
  else
    some (s1, 1)
  := (c_blk_eq d_CT T_Co_isNamed L_Co_isNamed 2 C 400 3 [(0, v_r 11), (1, v_i i1), (2, v_r 1), (3, v_i i3), (4, v_i i4)] [] s).trans rfl
theorem m_Co_isNamed (d : Nat) (i1 : Int32) (i3 : Int32) (s : c_S) : c_M (d + 1) 142 [v_r 11, v_i i1, v_r 1, v_i i3] s = b_Co_isNamed_0 (c_M d) i1 i3 s := rfl
set_option maxRecDepth 20000 in
theorem e_Co_fewestXs_0 (C : c_C)  (s : c_S) : b_Co_fewestXs_0 C  s =
  b_Co_fewestXs_2 C 1 s
  := (c_blk_eq d_CT T_Co_fewestXs L_Co_fewestXs 1 C 400 0 [(0, v_r 11)] [] s).trans rfl
set_option maxRecDepth 20000 in
theorem e_Co_fewestXs_2 (C : c_C) (i1 : Int32) (s : c_S) : b_Co_fewestXs_2 C i1 s =
  if (12 : Int32) < i1 then
    some (s, i1)
  else
    c_bd (C 144 [v_r 11, v_i i1] s) fun s1 x1 =>
    if x1 = 0 then
      some (s1, i1)
    else
      b_Co_fewestXs_2 C (i1 + 1) s1
  := (c_blk_eq d_CT T_Co_fewestXs L_Co_fewestXs 1 C 400 2 [(0, v_r 11), (1, v_i i1)] [] s).trans rfl
theorem m_Co_fewestXs (d : Nat)  (s : c_S) : c_M (d + 1) 143 [v_r 11] s = b_Co_fewestXs_0 (c_M d)  s := rfl
set_option maxRecDepth 20000 in
theorem e_Co_anyIsXsAndNumber_0 (C : c_C) (i1 : Int32) (s : c_S) : b_Co_anyIsXsAndNumber_0 C i1 s =
  b_Co_anyIsXsAndNumber_2 C i1 0 s
  := (c_blk_eq d_CT T_Co_anyIsXsAndNumber L_Co_anyIsXsAndNumber 2 C 400 0 [(0, v_r 11), (1, v_i i1)] [] s).trans rfl
set_option maxRecDepth 20000 in
theorem e_Co_anyIsXsAndNumber_2 (C : c_C) (i1 : Int32) (i2 : Int32) (s : c_S) : b_Co_anyIsXsAndNumber_2 C i1 i2 s =
  if i2 < s.1 11 7 then
    c_bd (C 145 [v_r 11, v_i i2, v_i i1] s) fun s1 x1 =>
    if x1 = 0 then
      b_Co_anyIsXsAndNumber_2 C i1 (i2 + 1) s1
    else
      some (s1, 1)
  else
    some (s, 0)
  := (c_blk_eq d_CT T_Co_anyIsXsAndNumber L_Co_anyIsXsAndNumber 2 C 400 2 [(0, v_r 11), (1, v_i i1), (2, v_i i2)] [] s).trans rfl
theorem m_Co_anyIsXsAndNumber (d : Nat) (i1 : Int32) (s : c_S) : c_M (d + 1) 144 [v_r 11, v_i i1] s = b_Co_anyIsXsAndNumber_0 (c_M d) i1 s := rfl
set_option maxRecDepth 20000 in
theorem e_Co_isXsAndNumber_0 (C : c_C) (i1 : Int32) (i2 : Int32) (s : c_S) : b_Co_isXsAndNumber_0 C i1 i2 s =
  c_bd (C 136 [v_r 11, v_i i1] s) fun s1 x1 =>
  if i2 < x1 then
    b_Co_isXsAndNumber_16 C i1 i2 x1 0 s1
  else
    some (s1, 0)
  := (c_blk_eq d_CT T_Co_isXsAndNumber L_Co_isXsAndNumber 2 C 400 0 [(0, v_r 11), (1, v_i i1), (2, v_i i2)] [] s).trans rfl
set_option maxRecDepth 20000 in
theorem e_Co_isXsAndNumber_16 (C : c_C) (i1 : Int32) (i2 : Int32) (i3 : Int32) (i4 : Int32) (s : c_S) : b_Co_isXsAndNumber_16 C i1 i2 i3 i4 s =
  if i4 < i3 then
    if i4 < i2 then
      c_bd (C 137 [v_r 11, v_i i1, v_i i4] s) fun s1 x1 =>
      if x1 = 120 then
        b_Co_isXsAndNumber_16 C i1 i2 i3 (i4 + 1) s1
      else
        some (s1, 0)
    else
      c_bd (C 137 [v_r 11, v_i i1, v_i i4] s) fun s2 x2 =>
      c_bd (C 17 [v_i x2] s2) fun s3 x3 =>
      if x3 = 0 then
        some (s3, 0)
      else
        b_Co_isXsAndNumber_16 C i1 i2 i3 (i4 + 1) s3
  else
    if i3 = i2 + 1 then
      some (s, 1)
    else
      c_bd (C 137 [v_r 11, v_i i1, v_i i2] s) fun s4 x4 =>
      if x4 = 48 then
        some (s4, 0)
      else
        some (s4, 1)
  := (c_blk_eq d_CT T_Co_isXsAndNumber L_Co_isXsAndNumber 2 C 400 16 [(0, v_r 11), (1, v_i i1), (2, v_i i2), (3, v_i i3), (4, v_i i4)] [] s).trans rfl
theorem m_Co_isXsAndNumber (d : Nat) (i1 : Int32) (i2 : Int32) (s : c_S) : c_M (d + 1) 145 [v_r 11, v_i i1, v_i i2] s = b_Co_isXsAndNumber_0 (c_M d) i1 i2 s := rfl
set_option maxRecDepth 20000 in
theorem e_Ma_shape_0 (C : c_C)  (s : c_S) : b_Ma_shape_0 C  s =
  some (s, s.1 30 4)
  := (c_blk_eq d_CT T_Ma_shape L_Ma_shape 1 C 400 0 [(0, v_r 30)] [] s).trans rfl
theorem m_Ma_shape (d : Nat)  (s : c_S) : c_M (d + 1) 151 [v_r 30] s = b_Ma_shape_0 (c_M d)  s := rfl
set_option maxRecDepth 20000 in
theorem e_Ma_shapeScope_0 (C : c_C)  (s : c_S) : b_Ma_shapeScope_0 C  s =
  some (s, s.1 30 5)
  := (c_blk_eq d_CT T_Ma_shapeScope L_Ma_shapeScope 1 C 400 0 [(0, v_r 30)] [] s).trans rfl
theorem m_Ma_shapeScope (d : Nat)  (s : c_S) : c_M (d + 1) 152 [v_r 30] s = b_Ma_shapeScope_0 (c_M d)  s := rfl
set_option maxRecDepth 20000 in
theorem e_Ma_head_0 (C : c_C)  (s : c_S) : b_Ma_head_0 C  s =
  some (s, s.1 30 6)
  := (c_blk_eq d_CT T_Ma_head L_Ma_head 1 C 400 0 [(0, v_r 30)] [] s).trans rfl
theorem m_Ma_head (d : Nat)  (s : c_S) : c_M (d + 1) 153 [v_r 30] s = b_Ma_head_0 (c_M d)  s := rfl
set_option maxRecDepth 20000 in
theorem e_Ma_row_0 (C : c_C)  (s : c_S) : b_Ma_row_0 C  s =
  some (s, s.1 30 7)
  := (c_blk_eq d_CT T_Ma_row L_Ma_row 1 C 400 0 [(0, v_r 30)] [] s).trans rfl
theorem m_Ma_row (d : Nat)  (s : c_S) : c_M (d + 1) 154 [v_r 30] s = b_Ma_row_0 (c_M d)  s := rfl
set_option maxRecDepth 20000 in
theorem e_Ma_headType_0 (C : c_C)  (s : c_S) : b_Ma_headType_0 C  s =
  if s.1 30 6 < 0 then
    c_bd (C 105 [v_r 19, v_i (-(s.1 30 6))] s) fun s1 x1 =>
    some (s1, x1)
  else
    c_bd (C 133 [v_r 11, v_i (s.1 30 6)] s) fun s2 x2 =>
    some (s2, x2)
  := (c_blk_eq d_CT T_Ma_headType L_Ma_headType 1 C 400 0 [(0, v_r 30)] [] s).trans rfl
theorem m_Ma_headType (d : Nat)  (s : c_S) : c_M (d + 1) 155 [v_r 30] s = b_Ma_headType_0 (c_M d)  s := rfl
set_option maxRecDepth 20000 in
theorem e_Ma_headTypeScope_0 (C : c_C)  (s : c_S) : b_Ma_headTypeScope_0 C  s =
  if s.1 30 6 < 0 then
    c_bd (C 106 [v_r 19, v_i (-(s.1 30 6))] s) fun s1 x1 =>
    some (s1, x1)
  else
    some (s, 0)
  := (c_blk_eq d_CT T_Ma_headTypeScope L_Ma_headTypeScope 1 C 400 0 [(0, v_r 30)] [] s).trans rfl
theorem m_Ma_headTypeScope (d : Nat)  (s : c_S) : c_M (d + 1) 156 [v_r 30] s = b_Ma_headTypeScope_0 (c_M d)  s := rfl
set_option maxRecDepth 20000 in
theorem e_Ma_push_0 (C : c_C) (i1 : Int32) (i2 : Int32) (i3 : Int32) (s : c_S) : b_Ma_push_0 C i1 i2 i3 s =
  c_bd (C 174 [v_r 3, v_i i1] s) fun s1 x1 =>
  b_Ma_push_19 C i2 i3 0 0 x1 0 s1
  := (c_blk_eq d_CT T_Ma_push L_Ma_push 1 C 400 0 [(0, v_r 30), (1, v_i i1), (2, v_i i2), (3, v_i i3)] [] s).trans rfl
set_option maxRecDepth 20000 in
theorem e_Ma_push_19 (C : c_C) (i2 : Int32) (i3 : Int32) (i4 : Int32) (i5 : Int32) (i6 : Int32) (i7 : Int32) (s : c_S) : b_Ma_push_19 C i2 i3 i4 i5 i6 i7 s =
  if i7 < 12800 then
    if i6 = 0 then
      b_Ma_push_169 C i3 i4 i5 s
    else
      c_bd (C 172 [v_r 3, v_i i6] s) fun s1 x1 =>
      if x1 = 4 then
        b_Ma_push_50 C i2 i3 i4 i5 i6 i7 1 s1
      else
        b_Ma_push_50 C i2 i3 i4 i5 i6 i7 0 s1
  else
    b_Ma_push_169 C i3 i4 i5 s
  := (c_blk_eq d_CT T_Ma_push L_Ma_push 1 C 400 19 [(0, v_r 30), (2, v_i i2), (3, v_i i3), (4, v_i i4), (5, v_i i5), (6, v_i i6), (7, v_i i7)] [] s).trans rfl
set_option maxRecDepth 20000 in
theorem e_Ma_push_169 (C : c_C) (i3 : Int32) (i4 : Int32) (i5 : Int32) (s : c_S) : b_Ma_push_169 C i3 i4 i5 s =
  if i4 = 0 then
    some (s, i3)
  else
    c_bd (C 109 [v_r 19, v_i i5, v_i i3] s) fun s1 _ =>
    some (s1, i4)
  := (c_blk_eq d_CT T_Ma_push L_Ma_push 1 C 400 169 [(0, v_r 30), (3, v_i i3), (4, v_i i4), (5, v_i i5)] [] s).trans rfl
set_option maxRecDepth 20000 in
theorem e_Ma_push_50 (C : c_C) (i2 : Int32) (i3 : Int32) (i4 : Int32) (i5 : Int32) (i6 : Int32) (i7 : Int32) (t0 : Int32) (s : c_S) : b_Ma_push_50 C i2 i3 i4 i5 i6 i7 t0 s =
  if t0 = 0 then
    b_Ma_push_78 C i2 i3 i4 i5 i6 i7 t0 0 s
  else
    c_bd (C 173 [v_r 3, v_i i6] s) fun s1 x1 =>
    c_bd (C 115 [v_r 19, v_i i2, v_i x1] s1) fun s2 x2 =>
    b_Ma_push_78 C i2 i3 i4 i5 i6 i7 t0 x2 s2
  := (c_blk_eq d_CT T_Ma_push L_Ma_push 1 C 400 50 [(0, v_r 30), (2, v_i i2), (3, v_i i3), (4, v_i i4), (5, v_i i5), (6, v_i i6), (7, v_i i7)] [v_i t0] s).trans rfl
set_option maxRecDepth 20000 in
theorem e_Ma_push_78 (C : c_C) (i2 : Int32) (i3 : Int32) (i4 : Int32) (i5 : Int32) (i6 : Int32) (i7 : Int32) (i8 : Int32) (t0 : Int32) (s : c_S) : b_Ma_push_78 C i2 i3 i4 i5 i6 i7 i8 t0 s =
  if i8 = 0 then
    c_bd (C 104 [v_r 19, v_i i6, v_i i2] s) fun s1 x1 =>
    b_Ma_push_123 C i2 i3 i4 i5 i6 i7 x1 s1
  else
    c_bd (C 105 [v_r 19, v_i t0] s) fun s2 x2 =>
    c_bd (C 106 [v_r 19, v_i t0] s2) fun s3 x3 =>
    c_bd (C 104 [v_r 19, v_i x2, v_i x3] s3) fun s4 x4 =>
    b_Ma_push_123 C i2 i3 i4 i5 i6 i7 x4 s4
  := (c_blk_eq d_CT T_Ma_push L_Ma_push 1 C 400 78 [(0, v_r 30), (2, v_i i2), (3, v_i i3), (4, v_i i4), (5, v_i i5), (6, v_i i6), (7, v_i i7), (8, v_i i8)] [v_i t0] s).trans rfl
set_option maxRecDepth 20000 in
theorem e_Ma_push_123 (C : c_C) (i2 : Int32) (i3 : Int32) (i4 : Int32) (i5 : Int32) (i6 : Int32) (i7 : Int32) (t0 : Int32) (s : c_S) : b_Ma_push_123 C i2 i3 i4 i5 i6 i7 t0 s =
  if i4 = 0 then
    b_Ma_push_148 C i2 i3 t0 i6 i7 t0 s
  else
    c_bd (C 109 [v_r 19, v_i i5, v_i t0] s) fun s1 _ =>
    b_Ma_push_148 C i2 i3 i4 i6 i7 t0 s1
  := (c_blk_eq d_CT T_Ma_push L_Ma_push 1 C 400 123 [(0, v_r 30), (2, v_i i2), (3, v_i i3), (4, v_i i4), (5, v_i i5), (6, v_i i6), (7, v_i i7)] [v_i t0] s).trans rfl
set_option maxRecDepth 20000 in
theorem e_Ma_push_148 (C : c_C) (i2 : Int32) (i3 : Int32) (i4 : Int32) (i6 : Int32) (i7 : Int32) (i10 : Int32) (s : c_S) : b_Ma_push_148 C i2 i3 i4 i6 i7 i10 s =
  c_bd (C 175 [v_r 3, v_i i6] s) fun s1 x1 =>
  b_Ma_push_19 C i2 i3 i4 i10 x1 (i7 + 1) s1
  := (c_blk_eq d_CT T_Ma_push L_Ma_push 1 C 400 148 [(0, v_r 30), (2, v_i i2), (3, v_i i3), (4, v_i i4), (6, v_i i6), (7, v_i i7), (10, v_i i10)] [] s).trans rfl
theorem m_Ma_push (d : Nat) (i1 : Int32) (i2 : Int32) (i3 : Int32) (s : c_S) : c_M (d + 1) 157 [v_r 30, v_i i1, v_i i2, v_i i3] s = b_Ma_push_0 (c_M d) i1 i2 i3 s := rfl
set_option maxRecDepth 20000 in
theorem e_Ma_expose_0 (C : c_C) (i1 : Int32) (i2 : Int32) (s : c_S) : b_Ma_expose_0 C i1 i2 s =
  b_Ma_expose_11 C i1 i2 0 0 s
  := (c_blk_eq d_CT T_Ma_expose L_Ma_expose 0 C 400 0 [(0, v_r 30), (1, v_i i1), (2, v_i i2)] [] s).trans rfl
set_option maxRecDepth 20000 in
theorem e_Ma_expose_11 (C : c_C) (i3 : Int32) (i4 : Int32) (i5 : Int32) (i6 : Int32) (s : c_S) : b_Ma_expose_11 C i3 i4 i5 i6 s =
  if i6 < 1000000 then
    c_bd (C 172 [v_r 3, v_i i3] s) fun s1 x1 =>
    if x1 = 7 then
      c_bd (C 157 [v_r 30, v_i i3, v_i i4, v_i i5] s1) fun s2 x2 =>
      c_bd (C 173 [v_r 3, v_i i3] s2) fun s3 x3 =>
      b_Ma_expose_196 C x3 i4 x2 i6 s3
    else
      if x1 = 4 then
        c_bd (C 173 [v_r 3, v_i i3] s1) fun s4 x4 =>
        c_bd (C 115 [v_r 19, v_i i4, v_i x4] s4) fun s5 x5 =>
        b_Ma_expose_83 C i5 i6 x5 s5
      else
        if x1 = 5 then
          c_bd (C 173 [v_r 3, v_i i3] s1) fun s6 x6 =>
          c_bd (C 133 [v_r 11, v_i x6] s6) fun s7 x7 =>
          b_Ma_expose_136 C x7 i5 i6 s7
        else
          if i5 = 0 then
            b_Ma_expose_202 C i3 i4 s1
          else
            c_bd (C 180 [v_r 3, v_i i3] s1) fun s8 x8 =>
            if x8 = 0 then
              b_Ma_expose_202 C i3 i4 s8
            else
              b_Ma_expose_158 C i3 i4 i5 i6 s8
  else
    b_Ma_expose_202 C i3 i4 s
  := (c_blk_eq d_CT T_Ma_expose L_Ma_expose 0 C 400 11 [(0, v_r 30), (3, v_i i3), (4, v_i i4), (5, v_i i5), (6, v_i i6)] [] s).trans rfl
set_option maxRecDepth 20000 in
theorem e_Ma_expose_196 (C : c_C) (i3 : Int32) (i4 : Int32) (i5 : Int32) (i6 : Int32) (s : c_S) : b_Ma_expose_196 C i3 i4 i5 i6 s =
  b_Ma_expose_11 C i3 i4 i5 (i6 + 1) s
  := (c_blk_eq d_CT T_Ma_expose L_Ma_expose 0 C 400 196 [(0, v_r 30), (3, v_i i3), (4, v_i i4), (5, v_i i5), (6, v_i i6)] [] s).trans rfl
set_option maxRecDepth 20000 in
theorem e_Ma_expose_83 (C : c_C) (i5 : Int32) (i6 : Int32) (i8 : Int32) (s : c_S) : b_Ma_expose_83 C i5 i6 i8 s =
  c_bd (C 108 [v_r 19, v_i i8] s) fun s1 x1 =>
  c_bd (C 173 [v_r 3, v_i x1] s1) fun s2 x2 =>
  c_bd (C 107 [v_r 19, v_i i8] s2) fun s3 x3 =>
  b_Ma_expose_196 C x2 x3 i5 i6 s3
  := (c_blk_eq d_CT T_Ma_expose L_Ma_expose 0 C 400 83 [(0, v_r 30), (5, v_i i5), (6, v_i i6), (8, v_i i8)] [] s).trans rfl
set_option maxRecDepth 20000 in
theorem e_Ma_expose_136 (C : c_C) (i3 : Int32) (i5 : Int32) (i6 : Int32) (s : c_S) : b_Ma_expose_136 C i3 i5 i6 s =
  b_Ma_expose_196 C i3 0 i5 i6 s
  := (c_blk_eq d_CT T_Ma_expose L_Ma_expose 0 C 400 136 [(0, v_r 30), (3, v_i i3), (5, v_i i5), (6, v_i i6)] [] s).trans rfl
set_option maxRecDepth 20000 in
theorem e_Ma_expose_202 (C : c_C) (i3 : Int32) (i4 : Int32) (s : c_S) : b_Ma_expose_202 C i3 i4 s =
  b_Ma_expose_207 C i4 (c_put s 30 4 i3)
  := (c_blk_eq d_CT T_Ma_expose L_Ma_expose 0 C 400 202 [(0, v_r 30), (3, v_i i3), (4, v_i i4)] [] s).trans rfl
set_option maxRecDepth 20000 in
theorem e_Ma_expose_158 (C : c_C) (i3 : Int32) (i4 : Int32) (i5 : Int32) (i6 : Int32) (s : c_S) : b_Ma_expose_158 C i3 i4 i5 i6 s =
  c_bd (C 107 [v_r 19, v_i i5] s) fun s1 x1 =>
  c_bd (C 110 [v_r 19, v_i i5, v_i i3, v_i i4] s1) fun s2 x2 =>
  c_bd (C 174 [v_r 3, v_i i3] s2) fun s3 x3 =>
  b_Ma_expose_192 C x3 x2 i6 x1 s3
  := (c_blk_eq d_CT T_Ma_expose L_Ma_expose 0 C 400 158 [(0, v_r 30), (3, v_i i3), (4, v_i i4), (5, v_i i5), (6, v_i i6)] [] s).trans rfl
set_option maxRecDepth 20000 in
theorem e_Ma_expose_207 (C : c_C) (i4 : Int32) (s : c_S) : b_Ma_expose_207 C i4 s =
  some ((c_put s 30 5 i4), 0)
  := (c_blk_eq d_CT T_Ma_expose L_Ma_expose 0 C 400 207 [(0, v_r 30), (4, v_i i4)] [] s).trans rfl
set_option maxRecDepth 20000 in
theorem e_Ma_expose_192 (C : c_C) (i3 : Int32) (i4 : Int32) (i6 : Int32) (i8 : Int32) (s : c_S) : b_Ma_expose_192 C i3 i4 i6 i8 s =
  b_Ma_expose_196 C i3 i4 i8 i6 s
  := (c_blk_eq d_CT T_Ma_expose L_Ma_expose 0 C 400 192 [(0, v_r 30), (3, v_i i3), (4, v_i i4), (6, v_i i6), (8, v_i i8)] [] s).trans rfl
theorem m_Ma_expose (d : Nat) (i1 : Int32) (i2 : Int32) (s : c_S) : c_M (d + 1) 158 [v_r 30, v_i i1, v_i i2] s = b_Ma_expose_0 (c_M d) i1 i2 s := rfl
set_option maxRecDepth 20000 in
theorem e_Ma_headForm_0 (C : c_C) (i1 : Int32) (i2 : Int32) (i3 : Int32) (s : c_S) : b_Ma_headForm_0 C i1 i2 i3 s =
  b_Ma_headForm_21 C i1 i2 0 (c_put (c_put s 30 7 i3) 30 6 ((-32768)))
  := (c_blk_eq d_CT T_Ma_headForm L_Ma_headForm 2 C 400 0 [(0, v_r 30), (1, v_i i1), (2, v_i i2), (3, v_i i3)] [] s).trans rfl
set_option maxRecDepth 20000 in
theorem e_Ma_headForm_21 (C : c_C) (i4 : Int32) (i5 : Int32) (i6 : Int32) (s : c_S) : b_Ma_headForm_21 C i4 i5 i6 s =
  if i6 < 1000000 then
    if (0 : Int32) < i4 then
      c_bd (C 172 [v_r 3, v_i i4] s) fun s1 x1 =>
      if x1 = 7 then
        c_bd (C 157 [v_r 30, v_i i4, v_i i5, v_i (s1.1 30 7)] s1) fun s2 x2 =>
        c_bd (C 173 [v_r 3, v_i i4] (c_put s2 30 7 x2)) fun s3 x3 =>
        b_Ma_headForm_299 C x3 i5 i6 s3
      else
        if x1 = 4 then
          c_bd (C 173 [v_r 3, v_i i4] s1) fun s4 x4 =>
          c_bd (C 115 [v_r 19, v_i i5, v_i x4] s4) fun s5 x5 =>
          b_Ma_headForm_107 C i6 x5 s5
        else
          if x1 = 3 then
            if s1.1 30 7 = 0 then
              b_Ma_headForm_207 C i4 i6 x1 s1
            else
              b_Ma_headForm_145 C i4 i5 i6 s1
          else
            b_Ma_headForm_207 C i4 i6 x1 s1
    else
      if i4 < 0 then
        b_Ma_headForm_319 C i4 s
      else
        b_Ma_headForm_319 C ((-32768)) s
  else
    if i4 < 0 then
      b_Ma_headForm_319 C i4 s
    else
      b_Ma_headForm_319 C ((-32768)) s
  := (c_blk_eq d_CT T_Ma_headForm L_Ma_headForm 2 C 400 21 [(0, v_r 30), (4, v_i i4), (5, v_i i5), (6, v_i i6)] [] s).trans rfl
set_option maxRecDepth 20000 in
theorem e_Ma_headForm_299 (C : c_C) (i4 : Int32) (i5 : Int32) (i6 : Int32) (s : c_S) : b_Ma_headForm_299 C i4 i5 i6 s =
  b_Ma_headForm_21 C i4 i5 (i6 + 1) s
  := (c_blk_eq d_CT T_Ma_headForm L_Ma_headForm 2 C 400 299 [(0, v_r 30), (4, v_i i4), (5, v_i i5), (6, v_i i6)] [] s).trans rfl
set_option maxRecDepth 20000 in
theorem e_Ma_headForm_107 (C : c_C) (i6 : Int32) (i8 : Int32) (s : c_S) : b_Ma_headForm_107 C i6 i8 s =
  c_bd (C 105 [v_r 19, v_i i8] s) fun s1 x1 =>
  c_bd (C 106 [v_r 19, v_i i8] s1) fun s2 x2 =>
  b_Ma_headForm_299 C x1 x2 i6 s2
  := (c_blk_eq d_CT T_Ma_headForm L_Ma_headForm 2 C 400 107 [(0, v_r 30), (6, v_i i6), (8, v_i i8)] [] s).trans rfl
set_option maxRecDepth 20000 in
theorem e_Ma_headForm_207 (C : c_C) (i4 : Int32) (i6 : Int32) (i7 : Int32) (s : c_S) : b_Ma_headForm_207 C i4 i6 i7 s =
  if i7 = 5 then
    c_bd (C 160 [v_r 30, v_i i4] s) fun s1 x1 =>
    if x1 = 0 then
      b_Ma_headForm_258 C i4 i7 s1
    else
      c_bd (C 166 [v_r 18] s1) fun s2 x2 =>
      if x2 = 0 then
        some (s2, 0)
      else
        c_bd (C 173 [v_r 3, v_i i4] s2) fun s3 x3 =>
        c_bd (C 134 [v_r 11, v_i x3] s3) fun s4 x4 =>
        b_Ma_headForm_252 C x4 i6 s4
  else
    b_Ma_headForm_258 C i4 i7 s
  := (c_blk_eq d_CT T_Ma_headForm L_Ma_headForm 2 C 400 207 [(0, v_r 30), (4, v_i i4), (6, v_i i6), (7, v_i i7)] [] s).trans rfl
set_option maxRecDepth 20000 in
theorem e_Ma_headForm_145 (C : c_C) (i4 : Int32) (i5 : Int32) (i6 : Int32) (s : c_S) : b_Ma_headForm_145 C i4 i5 i6 s =
  c_bd (C 166 [v_r 18] s) fun s1 x1 =>
  if x1 = 0 then
    some (s1, 0)
  else
    c_bd (C 107 [v_r 19, v_i (s1.1 30 7)] s1) fun s2 x2 =>
    c_bd (C 110 [v_r 19, v_i (s2.1 30 7), v_i i4, v_i i5] s2) fun s3 x3 =>
    c_bd (C 174 [v_r 3, v_i i4] s3) fun s4 x4 =>
    b_Ma_headForm_198 C x4 x3 i6 x2 s4
  := (c_blk_eq d_CT T_Ma_headForm L_Ma_headForm 2 C 400 145 [(0, v_r 30), (4, v_i i4), (5, v_i i5), (6, v_i i6)] [] s).trans rfl
set_option maxRecDepth 20000 in
theorem e_Ma_headForm_319 (C : c_C) (t0 : Int32) (s : c_S) : b_Ma_headForm_319 C t0 s =
  c_bd (C 164 [v_r 18] (c_put s 30 6 t0)) fun s1 x1 =>
  if x1 = 0 then
    some (s1, 1)
  else
    some (s1, 0)
  := (c_blk_eq d_CT T_Ma_headForm L_Ma_headForm 2 C 400 319 [(0, v_r 30)] [v_i t0, v_r 30] s).trans rfl
set_option maxRecDepth 20000 in
theorem e_Ma_headForm_258 (C : c_C) (i4 : Int32) (i7 : Int32) (s : c_S) : b_Ma_headForm_258 C i4 i7 s =
  if i7 = 5 then
    c_bd (C 173 [v_r 3, v_i i4] s) fun s1 x1 =>
    b_Ma_headForm_280 C x1 s1
  else
    b_Ma_headForm_280 C ((-32768)) s
  := (c_blk_eq d_CT T_Ma_headForm L_Ma_headForm 2 C 400 258 [(0, v_r 30), (4, v_i i4), (7, v_i i7)] [] s).trans rfl
set_option maxRecDepth 20000 in
theorem e_Ma_headForm_252 (C : c_C) (i4 : Int32) (i6 : Int32) (s : c_S) : b_Ma_headForm_252 C i4 i6 s =
  b_Ma_headForm_299 C i4 0 i6 s
  := (c_blk_eq d_CT T_Ma_headForm L_Ma_headForm 2 C 400 252 [(0, v_r 30), (4, v_i i4), (6, v_i i6)] [] s).trans rfl
set_option maxRecDepth 20000 in
theorem e_Ma_headForm_198 (C : c_C) (i4 : Int32) (i5 : Int32) (i6 : Int32) (i8 : Int32) (s : c_S) : b_Ma_headForm_198 C i4 i5 i6 i8 s =
  b_Ma_headForm_299 C i4 i5 i6 (c_put s 30 7 i8)
  := (c_blk_eq d_CT T_Ma_headForm L_Ma_headForm 2 C 400 198 [(0, v_r 30), (4, v_i i4), (5, v_i i5), (6, v_i i6), (8, v_i i8)] [] s).trans rfl
set_option maxRecDepth 20000 in
theorem e_Ma_headForm_280 (C : c_C) (t0 : Int32) (s : c_S) : b_Ma_headForm_280 C t0 s =
  c_bd (C 164 [v_r 18] (c_put s 30 6 t0)) fun s1 x1 =>
  if x1 = 0 then
    some (s1, 1)
  else
    some (s1, 0)
  := (c_blk_eq d_CT T_Ma_headForm L_Ma_headForm 2 C 400 280 [(0, v_r 30)] [v_i t0, v_r 30] s).trans rfl
theorem m_Ma_headForm (d : Nat) (i1 : Int32) (i2 : Int32) (i3 : Int32) (s : c_S) : c_M (d + 1) 159 [v_r 30, v_i i1, v_i i2, v_i i3] s = b_Ma_headForm_0 (c_M d) i1 i2 i3 s := rfl
set_option maxRecDepth 20000 in
theorem e_Ma_isDefinition_0 (C : c_C) (i1 : Int32) (s : c_S) : b_Ma_isDefinition_0 C i1 s =
  c_bd (C 173 [v_r 3, v_i i1] s) fun s1 x1 =>
  c_bd (C 132 [v_r 11, v_i x1] s1) fun s2 x2 =>
  if x2 = 2 then
    some (s2, 1)
  else
    some (s2, 0)
  := (c_blk_eq d_CT T_Ma_isDefinition L_Ma_isDefinition 2 C 400 0 [(0, v_r 30), (1, v_i i1)] [] s).trans rfl
theorem m_Ma_isDefinition (d : Nat) (i1 : Int32) (s : c_S) : c_M (d + 1) 160 [v_r 30, v_i i1] s = b_Ma_isDefinition_0 (c_M d) i1 s := rfl
set_option maxRecDepth 20000 in
theorem e_Re_begin_0 (C : c_C)  (s : c_S) : b_Re_begin_0 C  s =
  c_bd (C 220 [v_r 1] (c_put s 27 7 0)) fun s1 _ =>
  some (s1, 0)
  := (c_blk_eq d_CT T_Re_begin L_Re_begin 0 C 400 0 [(0, v_r 27)] [] s).trans rfl
theorem m_Re_begin (d : Nat)  (s : c_S) : c_M (d + 1) 189 [v_r 27] s = b_Re_begin_0 (c_M d)  s := rfl
set_option maxRecDepth 20000 in
theorem e_Re_fault_0 (C : c_C)  (s : c_S) : b_Re_fault_0 C  s =
  some (s, s.1 27 7)
  := (c_blk_eq d_CT T_Re_fault L_Re_fault 1 C 400 0 [(0, v_r 27)] [] s).trans rfl
theorem m_Re_fault (d : Nat)  (s : c_S) : c_M (d + 1) 190 [v_r 27] s = b_Re_fault_0 (c_M d)  s := rfl
set_option maxRecDepth 20000 in
theorem e_Re_namePlace_0 (C : c_C)  (s : c_S) : b_Re_namePlace_0 C  s =
  some (s, s.1 27 8)
  := (c_blk_eq d_CT T_Re_namePlace L_Re_namePlace 1 C 400 0 [(0, v_r 27)] [] s).trans rfl
theorem m_Re_namePlace (d : Nat)  (s : c_S) : c_M (d + 1) 191 [v_r 27] s = b_Re_namePlace_0 (c_M d)  s := rfl
set_option maxRecDepth 20000 in
theorem e_Re_nameLength_0 (C : c_C)  (s : c_S) : b_Re_nameLength_0 C  s =
  some (s, s.1 27 9)
  := (c_blk_eq d_CT T_Re_nameLength L_Re_nameLength 1 C 400 0 [(0, v_r 27)] [] s).trans rfl
theorem m_Re_nameLength (d : Nat)  (s : c_S) : c_M (d + 1) 192 [v_r 27] s = b_Re_nameLength_0 (c_M d)  s := rfl
set_option maxRecDepth 20000 in
theorem e_Re_typeRoot_0 (C : c_C)  (s : c_S) : b_Re_typeRoot_0 C  s =
  some (s, s.1 27 10)
  := (c_blk_eq d_CT T_Re_typeRoot L_Re_typeRoot 1 C 400 0 [(0, v_r 27)] [] s).trans rfl
theorem m_Re_typeRoot (d : Nat)  (s : c_S) : c_M (d + 1) 193 [v_r 27] s = b_Re_typeRoot_0 (c_M d)  s := rfl
set_option maxRecDepth 20000 in
theorem e_Re_bodyRoot_0 (C : c_C)  (s : c_S) : b_Re_bodyRoot_0 C  s =
  some (s, s.1 27 11)
  := (c_blk_eq d_CT T_Re_bodyRoot L_Re_bodyRoot 1 C 400 0 [(0, v_r 27)] [] s).trans rfl
theorem m_Re_bodyRoot (d : Nat)  (s : c_S) : c_M (d + 1) 194 [v_r 27] s = b_Re_bodyRoot_0 (c_M d)  s := rfl
set_option maxRecDepth 20000 in
theorem e_Re_faultOfDeclaration_0 (C : c_C)  (s : c_S) : b_Re_faultOfDeclaration_0 C  s =
  c_bd (C 197 [v_r 27] (c_put s 27 11 0)) fun s1 _ =>
  c_bd (C 198 [v_r 27, v_i 58] s1) fun s2 _ =>
  c_bd (C 200 [v_r 27] s2) fun s3 x3 =>
  if s3.1 27 7 = 0 then
    c_bd (C 216 [v_r 1] (c_put s3 27 10 x3)) fun s4 x4 =>
    if x4 = 61 then
      c_bd (C 221 [v_r 1] s4) fun s5 _ =>
      b_Re_faultOfDeclaration_49 C  s5
    else
      b_Re_faultOfDeclaration_57 C  s4
  else
    b_Re_faultOfDeclaration_57 C  (c_put s3 27 10 x3)
  := (c_blk_eq d_CT T_Re_faultOfDeclaration L_Re_faultOfDeclaration 1 C 400 0 [(0, v_r 27)] [] s).trans rfl
set_option maxRecDepth 20000 in
theorem e_Re_faultOfDeclaration_49 (C : c_C)  (s : c_S) : b_Re_faultOfDeclaration_49 C  s =
  c_bd (C 200 [v_r 27] s) fun s1 x1 =>
  b_Re_faultOfDeclaration_57 C  (c_put s1 27 11 x1)
  := (c_blk_eq d_CT T_Re_faultOfDeclaration L_Re_faultOfDeclaration 1 C 400 49 [(0, v_r 27)] [] s).trans rfl
set_option maxRecDepth 20000 in
theorem e_Re_faultOfDeclaration_57 (C : c_C)  (s : c_S) : b_Re_faultOfDeclaration_57 C  s =
  c_bd (C 198 [v_r 27, v_i 46] s) fun s1 _ =>
  some (s1, s1.1 27 7)
  := (c_blk_eq d_CT T_Re_faultOfDeclaration L_Re_faultOfDeclaration 1 C 400 57 [(0, v_r 27)] [] s).trans rfl
theorem m_Re_faultOfDeclaration (d : Nat)  (s : c_S) : c_M (d + 1) 195 [v_r 27] s = b_Re_faultOfDeclaration_0 (c_M d)  s := rfl
set_option maxRecDepth 20000 in
theorem e_Re_expressionBefore_0 (C : c_C) (i1 : Int32) (s : c_S) : b_Re_expressionBefore_0 C i1 s =
  c_bd (C 200 [v_r 27] s) fun s1 x1 =>
  c_bd (C 198 [v_r 27, v_i i1] s1) fun s2 _ =>
  some (s2, x1)
  := (c_blk_eq d_CT T_Re_expressionBefore L_Re_expressionBefore 1 C 400 0 [(0, v_r 27), (1, v_i i1)] [] s).trans rfl
theorem m_Re_expressionBefore (d : Nat) (i1 : Int32) (s : c_S) : c_M (d + 1) 196 [v_r 27, v_i i1] s = b_Re_expressionBefore_0 (c_M d) i1 s := rfl
set_option maxRecDepth 20000 in
theorem e_Re_readNewName_0 (C : c_C)  (s : c_S) : b_Re_readNewName_0 C  s =
  c_bd (C 217 [v_r 1] s) fun s1 x1 =>
  c_bd (C 218 [v_r 1] (c_put s1 27 8 x1)) fun s2 x2 =>
  c_bd (C 216 [v_r 1] (c_put s2 27 9 x2)) fun s3 x3 =>
  if x3 = 1 then
    c_bd (C 141 [v_r 11, v_r 1, v_i (s3.1 27 8), v_i (s3.1 27 9)] s3) fun s4 x4 =>
    if x4 = (-1) then
      c_bd (C 131 [v_r 11] s4) fun s5 x5 =>
      if x5 = 0 then
        b_Re_readNewName_93 C  s5
      else
        b_Re_readNewName_84 C  s5
    else
      c_bd (C 199 [v_r 27, v_i 3] s4) fun s6 x6 =>
      some (s6, 0)
  else
    c_bd (C 199 [v_r 27, v_i 1] s3) fun s7 x7 =>
    some (s7, 0)
  := (c_blk_eq d_CT T_Re_readNewName L_Re_readNewName 0 C 400 0 [(0, v_r 27)] [] s).trans rfl
set_option maxRecDepth 20000 in
theorem e_Re_readNewName_93 (C : c_C)  (s : c_S) : b_Re_readNewName_93 C  s =
  c_bd (C 221 [v_r 1] s) fun s1 _ =>
  some (s1, 0)
  := (c_blk_eq d_CT T_Re_readNewName L_Re_readNewName 0 C 400 93 [(0, v_r 27)] [] s).trans rfl
set_option maxRecDepth 20000 in
theorem e_Re_readNewName_84 (C : c_C)  (s : c_S) : b_Re_readNewName_84 C  s =
  c_bd (C 199 [v_r 27, v_i 5] s) fun s1 x1 =>
  some (s1, 0)
  := (c_blk_eq d_CT T_Re_readNewName L_Re_readNewName 0 C 400 84 [(0, v_r 27)] [] s).trans rfl
theorem m_Re_readNewName (d : Nat)  (s : c_S) : c_M (d + 1) 197 [v_r 27] s = b_Re_readNewName_0 (c_M d)  s := rfl
set_option maxRecDepth 20000 in
theorem e_Re_take_0 (C : c_C) (i1 : Int32) (s : c_S) : b_Re_take_0 C i1 s =
  if s.1 27 7 = 0 then
    c_bd (C 216 [v_r 1] s) fun s1 x1 =>
    if x1 = i1 then
      c_bd (C 221 [v_r 1] s1) fun s2 _ =>
      some (s2, 0)
    else
      c_bd (C 199 [v_r 27, v_i 1] s1) fun s3 x3 =>
      some (s3, 0)
  else
    some (s, 0)
  := (c_blk_eq d_CT T_Re_take L_Re_take 0 C 400 0 [(0, v_r 27), (1, v_i i1)] [] s).trans rfl
theorem m_Re_take (d : Nat) (i1 : Int32) (s : c_S) : c_M (d + 1) 198 [v_r 27, v_i i1] s = b_Re_take_0 (c_M d) i1 s := rfl
set_option maxRecDepth 20000 in
theorem e_Re_refuse_0 (C : c_C) (i1 : Int32) (s : c_S) : b_Re_refuse_0 C i1 s =
  if s.1 27 7 = 0 then
    c_bd (C 217 [v_r 1] s) fun s1 x1 =>
    c_bd (C 15 [v_i i1, v_i x1] s1) fun s2 x2 =>
    some ((c_put s2 27 7 x2), 0)
  else
    some (s, 0)
  := (c_blk_eq d_CT T_Re_refuse L_Re_refuse 1 C 400 0 [(0, v_r 27), (1, v_i i1)] [] s).trans rfl
theorem m_Re_refuse (d : Nat) (i1 : Int32) (s : c_S) : c_M (d + 1) 199 [v_r 27, v_i i1] s = b_Re_refuse_0 (c_M d) i1 s := rfl
set_option maxRecDepth 20000 in
theorem e_Re_wholeExpression_0 (C : c_C)  (s : c_S) : b_Re_wholeExpression_0 C  s =
  c_bd (C 201 [v_r 27, v_i 0] (c_put (c_put s 27 6 0) 27 5 0)) fun s1 x1 =>
  some (s1, x1)
  := (c_blk_eq d_CT T_Re_wholeExpression L_Re_wholeExpression 1 C 400 0 [(0, v_r 27)] [] s).trans rfl
theorem m_Re_wholeExpression (d : Nat)  (s : c_S) : c_M (d + 1) 200 [v_r 27] s = b_Re_wholeExpression_0 (c_M d)  s := rfl
set_option maxRecDepth 20000 in
theorem e_Re_expression_0 (C : c_C) (i1 : Int32) (s : c_S) : b_Re_expression_0 C i1 s =
  if s.1 27 7 = 0 then
    c_bd (C 216 [v_r 1] s) fun s1 x1 =>
    if x1 = 123 then
      b_Re_expression_34 C i1 1 s1
    else
      if x1 = 91 then
        b_Re_expression_34 C i1 1 s1
      else
        b_Re_expression_34 C i1 0 s1
  else
    some (s, 0)
  := (c_blk_eq d_CT T_Re_expression L_Re_expression 1 C 400 0 [(0, v_r 27), (1, v_i i1)] [] s).trans rfl
set_option maxRecDepth 20000 in
theorem e_Re_expression_34 (C : c_C) (i1 : Int32) (t0 : Int32) (s : c_S) : b_Re_expression_34 C i1 t0 s =
  if t0 = 0 then
    c_bd (C 206 [v_r 27] s) fun s1 x1 =>
    if x1 = 0 then
      c_bd (C 199 [v_r 27, v_i 1] s1) fun s2 x2 =>
      some (s2, x2)
    else
      b_Re_expression_52 C i1 t0 s1
  else
    b_Re_expression_52 C i1 t0 s
  := (c_blk_eq d_CT T_Re_expression L_Re_expression 1 C 400 34 [(0, v_r 27), (1, v_i i1)] [v_i t0] s).trans rfl
set_option maxRecDepth 20000 in
theorem e_Re_expression_52 (C : c_C) (i1 : Int32) (i3 : Int32) (s : c_S) : b_Re_expression_52 C i1 i3 s =
  if i1 < 40 then
    if i3 = 0 then
      c_bd (C 203 [v_r 27, v_i i1] s) fun s1 x1 =>
      some (s1, x1)
    else
      c_bd (C 202 [v_r 27, v_i i1] s) fun s2 x2 =>
      some (s2, x2)
  else
    c_bd (C 199 [v_r 27, v_i 5] s) fun s3 x3 =>
    some (s3, x3)
  := (c_blk_eq d_CT T_Re_expression L_Re_expression 1 C 400 52 [(0, v_r 27), (1, v_i i1), (3, v_i i3)] [] s).trans rfl
theorem m_Re_expression (d : Nat) (i1 : Int32) (s : c_S) : c_M (d + 1) 201 [v_r 27, v_i i1] s = b_Re_expression_0 (c_M d) i1 s := rfl
set_option maxRecDepth 20000 in
theorem e_Re_binding_0 (C : c_C) (i1 : Int32) (s : c_S) : b_Re_binding_0 C i1 s =
  c_bd (C 216 [v_r 1] s) fun s1 x1 =>
  if x1 = 123 then
    b_Re_binding_17 C i1 1 s1
  else
    b_Re_binding_17 C i1 0 s1
  := (c_blk_eq d_CT T_Re_binding L_Re_binding 1 C 400 0 [(0, v_r 27), (1, v_i i1)] [] s).trans rfl
set_option maxRecDepth 20000 in
theorem e_Re_binding_17 (C : c_C) (i1 : Int32) (t0 : Int32) (s : c_S) : b_Re_binding_17 C i1 t0 s =
  c_bd (C 217 [v_r 1] s) fun s1 x1 =>
  c_bd (C 207 [v_r 27] s1) fun s2 x2 =>
  if x2 = 0 then
    some (s2, 0)
  else
    c_bd (C 221 [v_r 1] s2) fun s3 _ =>
    c_bd (C 217 [v_r 1] s3) fun s4 x4 =>
    b_Re_binding_51 C i1 t0 x1 x4 s4
  := (c_blk_eq d_CT T_Re_binding L_Re_binding 1 C 400 17 [(0, v_r 27), (1, v_i i1)] [v_i t0] s).trans rfl
set_option maxRecDepth 20000 in
theorem e_Re_binding_51 (C : c_C) (i1 : Int32) (i2 : Int32) (i3 : Int32) (i4 : Int32) (s : c_S) : b_Re_binding_51 C i1 i2 i3 i4 s =
  c_bd (C 218 [v_r 1] s) fun s1 x1 =>
  c_bd (C 198 [v_r 27, v_i 1] s1) fun s2 _ =>
  c_bd (C 198 [v_r 27, v_i 58] s2) fun s3 _ =>
  c_bd (C 201 [v_r 27, v_i (i1 + 1)] s3) fun s4 x4 =>
  if i2 = 0 then
    b_Re_binding_92 C i1 i2 i3 i4 x1 x4 93 s4
  else
    b_Re_binding_92 C i1 i2 i3 i4 x1 x4 125 s4
  := (c_blk_eq d_CT T_Re_binding L_Re_binding 1 C 400 51 [(0, v_r 27), (1, v_i i1), (2, v_i i2), (3, v_i i3), (4, v_i i4)] [] s).trans rfl
set_option maxRecDepth 20000 in
theorem e_Re_binding_92 (C : c_C) (i1 : Int32) (i2 : Int32) (i3 : Int32) (i4 : Int32) (i5 : Int32) (i6 : Int32) (t0 : Int32) (s : c_S) : b_Re_binding_92 C i1 i2 i3 i4 i5 i6 t0 s =
  c_bd (C 198 [v_r 27, v_i t0] s) fun s1 _ =>
  c_bd (C 210 [v_r 27, v_i i4, v_i i5] s1) fun s2 _ =>
  c_bd (C 201 [v_r 27, v_i (i1 + 1)] s2) fun s3 x3 =>
  c_bd (C 211 [v_r 27] s3) fun s4 _ =>
  if i2 = 0 then
    b_Re_binding_126 C i3 i6 x3 3 s4
  else
    b_Re_binding_126 C i3 i6 x3 2 s4
  := (c_blk_eq d_CT T_Re_binding L_Re_binding 1 C 400 92 [(0, v_r 27), (1, v_i i1), (2, v_i i2), (3, v_i i3), (4, v_i i4), (5, v_i i5), (6, v_i i6)] [v_i t0, v_r 27] s).trans rfl
set_option maxRecDepth 20000 in
theorem e_Re_binding_126 (C : c_C) (i3 : Int32) (i6 : Int32) (i7 : Int32) (t0 : Int32) (s : c_S) : b_Re_binding_126 C i3 i6 i7 t0 s =
  c_bd (C 209 [v_r 27, v_i t0, v_i i6, v_i i7, v_i i3, v_i i3] s) fun s1 x1 =>
  some (s1, x1)
  := (c_blk_eq d_CT T_Re_binding L_Re_binding 1 C 400 126 [(3, v_i i3), (6, v_i i6), (7, v_i i7)] [v_i t0, v_r 27] s).trans rfl
theorem m_Re_binding (d : Nat) (i1 : Int32) (s : c_S) : c_M (d + 1) 202 [v_r 27, v_i i1] s = b_Re_binding_0 (c_M d) i1 s := rfl
set_option maxRecDepth 20000 in
theorem e_Re_arrow_0 (C : c_C) (i1 : Int32) (s : c_S) : b_Re_arrow_0 C i1 s =
  c_bd (C 217 [v_r 1] s) fun s1 x1 =>
  c_bd (C 204 [v_r 27, v_i i1] s1) fun s2 x2 =>
  if s2.1 27 7 = 0 then
    c_bd (C 216 [v_r 1] s2) fun s3 x3 =>
    if x3 = 62 then
      b_Re_arrow_35 C i1 x1 x2 s3
    else
      b_Re_arrow_33 C x2 s3
  else
    b_Re_arrow_33 C x2 s2
  := (c_blk_eq d_CT T_Re_arrow L_Re_arrow 1 C 400 0 [(0, v_r 27), (1, v_i i1)] [] s).trans rfl
set_option maxRecDepth 20000 in
theorem e_Re_arrow_35 (C : c_C) (i1 : Int32) (i2 : Int32) (i3 : Int32) (s : c_S) : b_Re_arrow_35 C i1 i2 i3 s =
  c_bd (C 217 [v_r 1] s) fun s1 x1 =>
  c_bd (C 207 [v_r 27] s1) fun s2 x2 =>
  if x2 = 0 then
    some (s2, 0)
  else
    c_bd (C 221 [v_r 1] s2) fun s3 _ =>
    c_bd (C 210 [v_r 27, v_i x1, v_i 0] s3) fun s4 _ =>
    c_bd (C 201 [v_r 27, v_i (i1 + 1)] s4) fun s5 x5 =>
    b_Re_arrow_76 C i2 i3 x1 x5 s5
  := (c_blk_eq d_CT T_Re_arrow L_Re_arrow 1 C 400 35 [(0, v_r 27), (1, v_i i1), (2, v_i i2), (3, v_i i3)] [] s).trans rfl
set_option maxRecDepth 20000 in
theorem e_Re_arrow_33 (C : c_C) (i3 : Int32) (s : c_S) : b_Re_arrow_33 C i3 s =
  some (s, i3)
  := (c_blk_eq d_CT T_Re_arrow L_Re_arrow 1 C 400 33 [(3, v_i i3)] [] s).trans rfl
set_option maxRecDepth 20000 in
theorem e_Re_arrow_76 (C : c_C) (i2 : Int32) (i3 : Int32) (i4 : Int32) (i5 : Int32) (s : c_S) : b_Re_arrow_76 C i2 i3 i4 i5 s =
  c_bd (C 211 [v_r 27] s) fun s1 _ =>
  c_bd (C 209 [v_r 27, v_i 2, v_i i3, v_i i5, v_i i4, v_i i2] s1) fun s2 x2 =>
  some (s2, x2)
  := (c_blk_eq d_CT T_Re_arrow L_Re_arrow 1 C 400 76 [(0, v_r 27), (2, v_i i2), (3, v_i i3), (4, v_i i4), (5, v_i i5)] [] s).trans rfl
theorem m_Re_arrow (d : Nat) (i1 : Int32) (s : c_S) : c_M (d + 1) 203 [v_r 27, v_i i1] s = b_Re_arrow_0 (c_M d) i1 s := rfl
set_option maxRecDepth 20000 in
theorem e_Re_application_0 (C : c_C) (i1 : Int32) (s : c_S) : b_Re_application_0 C i1 s =
  c_bd (C 205 [v_r 27, v_i (i1 + 1)] s) fun s1 x1 =>
  b_Re_application_16 C i1 x1 0 0 0 s1
  := (c_blk_eq d_CT T_Re_application L_Re_application 1 C 400 0 [(0, v_r 27), (1, v_i i1)] [] s).trans rfl
set_option maxRecDepth 20000 in
theorem e_Re_application_16 (C : c_C) (i1 : Int32) (i2 : Int32) (i3 : Int32) (i4 : Int32) (i5 : Int32) (s : c_S) : b_Re_application_16 C i1 i2 i3 i4 i5 s =
  if i5 < 600 then
    if s.1 27 7 = 0 then
      c_bd (C 206 [v_r 27] s) fun s1 x1 =>
      if x1 = 0 then
        b_Re_application_78 C i2 i3 s1
      else
        c_bd (C 205 [v_r 27, v_i (i1 + 1)] s1) fun s2 x2 =>
        if i3 = 0 then
          b_Re_application_68 C i1 i2 x2 i5 x2 s2
        else
          c_bd (C 182 [v_r 3, v_i i4, v_i x2] s2) fun s3 _ =>
          b_Re_application_68 C i1 i2 i3 i5 x2 s3
    else
      b_Re_application_78 C i2 i3 s
  else
    b_Re_application_78 C i2 i3 s
  := (c_blk_eq d_CT T_Re_application L_Re_application 1 C 400 16 [(0, v_r 27), (1, v_i i1), (2, v_i i2), (3, v_i i3), (4, v_i i4), (5, v_i i5)] [] s).trans rfl
set_option maxRecDepth 20000 in
theorem e_Re_application_78 (C : c_C) (i2 : Int32) (i3 : Int32) (s : c_S) : b_Re_application_78 C i2 i3 s =
  if s.1 27 7 = 0 then
    if i3 = 0 then
      some (s, i2)
    else
      c_bd (C 178 [v_r 3, v_i i2] s) fun s1 x1 =>
      c_bd (C 178 [v_r 3, v_i i2] s1) fun s2 x2 =>
      c_bd (C 209 [v_r 27, v_i 7, v_i i2, v_i i3, v_i x1, v_i x2] s2) fun s3 x3 =>
      some (s3, x3)
  else
    some (s, i2)
  := (c_blk_eq d_CT T_Re_application L_Re_application 1 C 400 78 [(0, v_r 27), (2, v_i i2), (3, v_i i3)] [] s).trans rfl
set_option maxRecDepth 20000 in
theorem e_Re_application_68 (C : c_C) (i1 : Int32) (i2 : Int32) (i3 : Int32) (i5 : Int32) (i6 : Int32) (s : c_S) : b_Re_application_68 C i1 i2 i3 i5 i6 s =
  b_Re_application_16 C i1 i2 i3 i6 (i5 + 1) s
  := (c_blk_eq d_CT T_Re_application L_Re_application 1 C 400 68 [(0, v_r 27), (1, v_i i1), (2, v_i i2), (3, v_i i3), (5, v_i i5), (6, v_i i6)] [] s).trans rfl
theorem m_Re_application (d : Nat) (i1 : Int32) (s : c_S) : c_M (d + 1) 204 [v_r 27, v_i i1] s = b_Re_application_0 (c_M d) i1 s := rfl
set_option maxRecDepth 20000 in
theorem e_Re_part_0 (C : c_C) (i1 : Int32) (s : c_S) : b_Re_part_0 C i1 s =
  if i1 < 40 then
    c_bd (C 207 [v_r 27] s) fun s1 x1 =>
    if x1 = 0 then
      some (s1, 0)
    else
      c_bd (C 217 [v_r 1] s1) fun s2 x2 =>
      c_bd (C 216 [v_r 1] s2) fun s3 x3 =>
      if x3 = 40 then
        c_bd (C 221 [v_r 1] s3) fun s4 _ =>
        b_Re_part_48 C i1 x2 s4
      else
        c_bd (C 216 [v_r 1] s3) fun s5 x5 =>
        if x5 = 2 then
          b_Re_part_84 C x2 s5
        else
          b_Re_part_96 C x2 s5
  else
    c_bd (C 199 [v_r 27, v_i 5] s) fun s6 x6 =>
    some (s6, x6)
  := (c_blk_eq d_CT T_Re_part L_Re_part 1 C 400 0 [(0, v_r 27), (1, v_i i1)] [] s).trans rfl
set_option maxRecDepth 20000 in
theorem e_Re_part_48 (C : c_C) (i1 : Int32) (i2 : Int32) (s : c_S) : b_Re_part_48 C i1 i2 s =
  c_bd (C 201 [v_r 27, v_i (i1 + 1)] s) fun s1 x1 =>
  c_bd (C 198 [v_r 27, v_i 41] s1) fun s2 _ =>
  c_bd (C 181 [v_r 3, v_i x1, v_i i2] s2) fun s3 _ =>
  some (s3, x1)
  := (c_blk_eq d_CT T_Re_part L_Re_part 1 C 400 48 [(0, v_r 27), (1, v_i i1), (2, v_i i2)] [] s).trans rfl
set_option maxRecDepth 20000 in
theorem e_Re_part_84 (C : c_C) (i2 : Int32) (s : c_S) : b_Re_part_84 C i2 s =
  c_bd (C 209 [v_r 27, v_i 1, v_i 0, v_i 0, v_i i2, v_i i2] s) fun s1 x1 =>
  b_Re_part_101 C x1 s1
  := (c_blk_eq d_CT T_Re_part L_Re_part 1 C 400 84 [(0, v_r 27), (2, v_i i2)] [] s).trans rfl
set_option maxRecDepth 20000 in
theorem e_Re_part_96 (C : c_C) (i2 : Int32) (s : c_S) : b_Re_part_96 C i2 s =
  c_bd (C 208 [v_r 27, v_i i2] s) fun s1 x1 =>
  b_Re_part_101 C x1 s1
  := (c_blk_eq d_CT T_Re_part L_Re_part 1 C 400 96 [(0, v_r 27), (2, v_i i2)] [] s).trans rfl
set_option maxRecDepth 20000 in
theorem e_Re_part_101 (C : c_C) (t0 : Int32) (s : c_S) : b_Re_part_101 C t0 s =
  c_bd (C 221 [v_r 1] s) fun s1 _ =>
  some (s1, t0)
  := (c_blk_eq d_CT T_Re_part L_Re_part 1 C 400 101 [(0, v_r 27)] [v_i t0] s).trans rfl
theorem m_Re_part (d : Nat) (i1 : Int32) (s : c_S) : c_M (d + 1) 205 [v_r 27, v_i i1] s = b_Re_part_0 (c_M d) i1 s := rfl
set_option maxRecDepth 20000 in
theorem e_Re_startsPart_0 (C : c_C)  (s : c_S) : b_Re_startsPart_0 C  s =
  c_bd (C 216 [v_r 1] s) fun s1 x1 =>
  if x1 = 1 then
    some (s1, 1)
  else
    if x1 = 2 then
      some (s1, 1)
    else
      if x1 = 40 then
        some (s1, 1)
      else
        some (s1, 0)
  := (c_blk_eq d_CT T_Re_startsPart L_Re_startsPart 2 C 400 0 [(0, v_r 27)] [] s).trans rfl
theorem m_Re_startsPart (d : Nat)  (s : c_S) : c_M (d + 1) 206 [v_r 27] s = b_Re_startsPart_0 (c_M d)  s := rfl
set_option maxRecDepth 20000 in
theorem e_Re_countPart_0 (C : c_C)  (s : c_S) : b_Re_countPart_0 C  s =
  if (600 : Int32) < (s.1 27 6) + 1 then
    c_bd (C 199 [v_r 27, v_i 5] (c_put s 27 6 ((s.1 27 6) + 1))) fun s1 x1 =>
    if s1.1 27 7 = 0 then
      some (s1, 1)
    else
      some (s1, 0)
  else
    if s.1 27 7 = 0 then
      some ((c_put s 27 6 ((s.1 27 6) + 1)), 1)
    else
      some ((c_put s 27 6 ((s.1 27 6) + 1)), 0)
  := (c_blk_eq d_CT T_Re_countPart L_Re_countPart 2 C 400 0 [(0, v_r 27)] [] s).trans rfl
theorem m_Re_countPart (d : Nat)  (s : c_S) : c_M (d + 1) 207 [v_r 27] s = b_Re_countPart_0 (c_M d)  s := rfl
set_option maxRecDepth 20000 in
theorem e_Re_nameNode_0 (C : c_C) (i1 : Int32) (s : c_S) : b_Re_nameNode_0 C i1 s =
  c_bd (C 218 [v_r 1] s) fun s1 x1 =>
  b_Re_nameNode_23 C i1 x1 ((if 40 < s1.1 27 5 then 40 else s1.1 27 5) - 1) ((if 40 < s1.1 27 5 then 40 else s1.1 27 5) - 1) s1
  := (c_blk_eq d_CT T_Re_nameNode L_Re_nameNode 1 C 400 0 [(0, v_r 27), (1, v_i i1)] [] s).trans rfl
set_option maxRecDepth 20000 in
theorem e_Re_nameNode_23 (C : c_C) (i1 : Int32) (i2 : Int32) (i3 : Int32) (i4 : Int32) (s : c_S) : b_Re_nameNode_23 C i1 i2 i3 i4 s =
  if i4 < 0 then
    c_bd (C 141 [v_r 11, v_r 1, v_i i1, v_i i2] s) fun s1 x1 =>
    if x1 = (-1) then
      b_Re_nameNode_105 C i1 x1 6 s1
    else
      b_Re_nameNode_105 C i1 x1 5 s1
  else
    c_rg i4 40 (
      if s.1 29 i4.toNatClampNeg = i2 then
        c_rg i4 40 (
          c_bd (C 223 [v_r 1, v_i (s.1 28 i4.toNatClampNeg), v_i i1, v_i i2] s) fun s2 x2 =>
          if x2 = 0 then
            b_Re_nameNode_23 C i1 i2 i3 (i4 + (-1)) s2
          else
            c_bd (C 209 [v_r 27, v_i 4, v_i (i3 - i4), v_i 0, v_i i1, v_i i1] s2) fun s3 x3 =>
            some (s3, x3))
      else
        b_Re_nameNode_23 C i1 i2 i3 (i4 + (-1)) s)
  := (c_blk_eq d_CT T_Re_nameNode L_Re_nameNode 1 C 400 23 [(0, v_r 27), (1, v_i i1), (2, v_i i2), (3, v_i i3), (4, v_i i4)] [] s).trans rfl
set_option maxRecDepth 20000 in
theorem e_Re_nameNode_105 (C : c_C) (i1 : Int32) (i4 : Int32) (t0 : Int32) (s : c_S) : b_Re_nameNode_105 C i1 i4 t0 s =
  c_bd (C 209 [v_r 27, v_i t0, v_i i4, v_i 0, v_i i1, v_i i1] s) fun s1 x1 =>
  some (s1, x1)
  := (c_blk_eq d_CT T_Re_nameNode L_Re_nameNode 1 C 400 105 [(1, v_i i1), (4, v_i i4)] [v_i t0, v_r 27] s).trans rfl
theorem m_Re_nameNode (d : Nat) (i1 : Int32) (s : c_S) : c_M (d + 1) 208 [v_r 27, v_i i1] s = b_Re_nameNode_0 (c_M d) i1 s := rfl
set_option maxRecDepth 20000 in
theorem e_Re_node_0 (C : c_C) (i1 : Int32) (i2 : Int32) (i3 : Int32) (i4 : Int32) (i5 : Int32) (s : c_S) : b_Re_node_0 C i1 i2 i3 i4 i5 s =
  c_bd (C 170 [v_r 3] s) fun s1 x1 =>
  if x1 = 0 then
    if s1.1 27 7 = 0 then
      c_bd (C 171 [v_r 3, v_i i1, v_i i2, v_i i3, v_i i4, v_i i5] s1) fun s2 x2 =>
      some (s2, x2)
    else
      some (s1, 0)
  else
    c_bd (C 199 [v_r 27, v_i 5] s1) fun s3 x3 =>
    some (s3, x3)
  := (c_blk_eq d_CT T_Re_node L_Re_node 1 C 400 0 [(0, v_r 27), (1, v_i i1), (2, v_i i2), (3, v_i i3), (4, v_i i4), (5, v_i i5)] [] s).trans rfl
theorem m_Re_node (d : Nat) (i1 : Int32) (i2 : Int32) (i3 : Int32) (i4 : Int32) (i5 : Int32) (s : c_S) : c_M (d + 1) 209 [v_r 27, v_i i1, v_i i2, v_i i3, v_i i4, v_i i5] s = b_Re_node_0 (c_M d) i1 i2 i3 i4 i5 s := rfl
set_option maxRecDepth 20000 in
theorem e_Re_enterScope_0 (C : c_C) (i1 : Int32) (i2 : Int32) (s : c_S) : b_Re_enterScope_0 C i1 i2 s =
  if s.1 27 5 < 0 then
    some ((c_put s 27 5 ((s.1 27 5) + 1)), 0)
  else
    if s.1 27 5 < 40 then
      c_rg (s.1 27 5) 40 (
        c_rg (s.1 27 5) 40 (
          some ((c_put (c_put (c_put s 28 ((s.1 27 5).toNatClampNeg) i1) 29 ((s.1 27 5).toNatClampNeg) i2) 27 5 ((s.1 27 5) + 1)), 0)))
    else
      some ((c_put s 27 5 ((s.1 27 5) + 1)), 0)
  := (c_blk_eq d_CT T_Re_enterScope L_Re_enterScope 0 C 400 0 [(0, v_r 27), (1, v_i i1), (2, v_i i2)] [] s).trans rfl
theorem m_Re_enterScope (d : Nat) (i1 : Int32) (i2 : Int32) (s : c_S) : c_M (d + 1) 210 [v_r 27, v_i i1, v_i i2] s = b_Re_enterScope_0 (c_M d) i1 i2 s := rfl
set_option maxRecDepth 20000 in
theorem e_Re_leaveScope_0 (C : c_C)  (s : c_S) : b_Re_leaveScope_0 C  s =
  some ((c_put s 27 5 ((s.1 27 5) - 1)), 0)
  := (c_blk_eq d_CT T_Re_leaveScope L_Re_leaveScope 0 C 400 0 [(0, v_r 27)] [] s).trans rfl
theorem m_Re_leaveScope (d : Nat)  (s : c_S) : c_M (d + 1) 211 [v_r 27] s = b_Re_leaveScope_0 (c_M d)  s := rfl
