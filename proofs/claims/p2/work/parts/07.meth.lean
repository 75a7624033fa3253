def d_M : List c_M0 := [D_Fb_feed, D_Fb_declare, D_Fb_canon, D_Fb_type, D_Fb_equal, D_Fb_named, D_Fb_constant, D_Fb_size, D_Fb_out, D_Fb_forget, D_Fb_count, D_Fb_begin, D_Fb_writtenForm, D_Fb_comparison, D_Fb_troubleAtEnd, D_Fb_faultAt, D_Fb_isLetter, D_Fb_isDigit, D_Rm_feed, D_Rm_lay, D_Rm_isLetter, D_Rm_isDigit, D_Rm_rank, D_Rm_isSignOf, D_Rm_cutAll, D_Rm_wrong, D_Rm_isSign, D_Rm_isType, D_Rm_isName, D_Rm_takeSign, D_Rm_node, D_Rm_typeNode, D_Rm_within, D_Rm_counts, D_Rm_readWhole, D_Rm_isP, D_Rm_readE, D_Rm_readBinder, D_Rm_readA, D_Rm_readP, D_Rm_constantOf, D_Rm_closure, D_Rm_list, D_Rm_behind, D_Rm_newVar, D_Rm_step, D_Rm_stepAt, D_Rm_begins, D_Rm_shows, D_Rm_shown, D_Rm_without, D_Rm_heads, D_Rm_manyBehind, D_Rm_asks, D_Rm_sameFamilies, D_Rm_sameAsked, D_Rm_behindOf, D_Rm_sameSpines, D_Rm_sameBehind, D_Rm_append, D_Rm_sameObjects, D_Rm_sameObjectsAsked, D_Rm_equalFamilies, D_Rm_wanted, D_Rm_bind, D_Rm_unbind, D_Rm_find, D_Rm_isFamilyNode, D_Rm_family, D_Rm_familyBehind, D_Rm_is, D_Rm_object, D_Rm_name, D_Rm_lambda, D_Rm_objectBehind, D_Rm_oneBehind, D_Rm_declare, D_Rm_declaration, D_Rm_say, D_Rm_signOf, D_Rm_sayPart, D_Rm_sayVar, D_Rm_countXs, D_Rm_isXs, D_Rm_takeLetters, D_Rm_ended, D_Rm_tellFamily, D_Rm_tellBehind, D_Rm_tellObject, D_Rm_tellLambda, D_Rm_tellHead, D_Rm_askOne, D_Rm_tell, D_Rm_canon, D_Rm_type, D_Rm_equal, D_Rm_named, D_Rm_constant, D_Rm_size, D_Rm_out, D_Rm_forget, D_Rm_count, D_Ce_mark, D_Ce_release, D_Ce_make, D_Ce_term, D_Ce_scope, D_Ce_next, D_Ce_binder, D_Ce_link, D_Ce_bind, D_Ce_newVariable, D_Ce_numberOf, D_Ce_enter, D_Ce_append, D_Ce_outward, D_Ck_sort, D_Ck_faultOfDeclaration, D_Ck_faultOfObject, D_Ck_wrong, D_Ck_step, D_Ck_classifier, D_Ck_under, D_Ck_family, D_Ck_isFamilyName, D_Ck_objectsOfFamily, D_Ck_fitting, D_Ck_object, D_Ck_bareObject, D_Ck_applied, D_Co_number, D_Co_full, D_Co_sort, D_Co_typeRoot, D_Co_bodyRoot, D_Co_wanted, D_Co_nameLength, D_Co_nameSign, D_Co_name, D_Co_add, D_Co_drop, D_Co_find, D_Co_isNamed, D_Co_fewestXs, D_Co_anyIsXsAndNumber, D_Co_isXsAndNumber, D_Ju_sameObjects, D_Ju_families, D_Ju_rows, D_Ju_meet, D_Ju_sameLength, D_Ma_shape, D_Ma_shapeScope, D_Ma_head, D_Ma_row, D_Ma_headType, D_Ma_headTypeScope, D_Ma_push, D_Ma_expose, D_Ma_headForm, D_Ma_isDefinition, D_Me_begin, D_Me_stepsInAll, D_Me_stepsOfLatest, D_Me_trouble, D_Me_stop, D_Me_step, D_Me_question, D_No_mark, D_No_release, D_No_full, D_No_make, D_No_kind, D_No_left, D_No_right, D_No_sibling, D_No_token, D_No_first, D_No_place, D_No_inBrackets, D_No_isArrow, D_No_setPlace, D_No_setSibling, D_No_becomeFamily, D_Pa_length, D_Pa_signAt, D_Pa_beginDraft, D_Pa_put, D_Pa_keepDraft, D_Re_begin, D_Re_fault, D_Re_namePlace, D_Re_nameLength, D_Re_typeRoot, D_Re_bodyRoot, D_Re_faultOfDeclaration, D_Re_expressionBefore, D_Re_readNewName, D_Re_take, D_Re_refuse, D_Re_wholeExpression, D_Re_expression, D_Re_binding, D_Re_arrow, D_Re_application, D_Re_part, D_Re_startsPart, D_Re_countPart, D_Re_nameNode, D_Re_node, D_Re_enterScope, D_Re_leaveScope, D_Ta_append, D_Ta_length, D_Ta_empty, D_Ta_signAt, D_Ta_token, D_Ta_place, D_Ta_wordLength, D_Ta_atEnd, D_Ta_rewind, D_Ta_advance, D_Ta_readWord, D_Ta_sameSigns, D_Ta_isBlank, D_Ta_isMark, D_Wr_write, D_Wr_family, D_Wr_binding, D_Wr_object, D_Wr_putHead, D_Wr_objects, D_Wr_putName, D_Wr_putVariable]
def ck_ml (q : Nat × Nat × Nat × Nat × Nat × Nat × Nat × Nat) : Bool := match q with
  | (own, _, t, nest, stat, n, u, w) => match c_nth d_M t with
    | none => false
    | some (_, _, rb, ow, y, _, _, _) => decide (u = if rb = 0 then 0 else 1) && (match stat with
        | 0 => decide (w = ow) && decide ((parseMethodDescriptor y.desc).map (fun d => d.parameters.length + 1) = some n)
        | _ + 1 => (decide (nest ≠ 0) || decide (y.cls = d_nm own)) && decide ((parseMethodDescriptor y.desc).map (fun d => d.parameters.length) = some n))
/-- what a method's row says -/
def c_mok (q : c_M0) : Prop := (∀ r ∈ q.1, ck_e q.2.2.2.1 q.2.2.2.2.2.1 r = true) ∧ Cond.code q.2.2.2.2.1 q.2.2.2.2.2.1 q.2.2.2.2.2.2.1 q.2.2.2.2.2.2.2 ∈ lw_tbl ∧ plainName q.2.2.2.2.1.cls = true ∧ q.2.2.2.2.1.cls = d_nm q.2.2.2.1 ∧ (q.2.2.1 = 0 ∧ q.2.2.2.2.2.2.2 = none ∨ q.2.2.1 = 1 ∧ q.2.2.2.2.2.2.2 = some .int ∨ q.2.2.1 = 2 ∧ q.2.2.2.2.2.2.2 = some .boolean) ∧ (q.2.2.2.2.1.cls ≠ "java/lang/invoke/MethodHandle" ∧ q.2.2.2.2.1.cls ≠ "java/lang/invoke/VarHandle") ∧ q.2.2.2.2.2.2.1 ≤ 26 ∧ Cond.initialized q.2.2.2.2.1.cls ∈ lw_tbl ∧ q.2.2.2.1 < 13
/-- what a link's row says -/
def c_lok (q : Nat × Nat × Nat × Nat × Nat × Nat × Nat × Nat) : Prop := match c_nth d_M q.2.2.1 with
  | none => False
  | some m => (match q.2.2.2.1 with
      | 0 => Cond.methodLink (d_nm q.1) q.2.1 m.2.2.2.2.1 ∈ lw_tbl
      | _ + 1 => Cond.methodLinkNest (d_nm q.1) q.2.1 m.2.2.2.2.1 "FrameBench" ∈ lw_tbl) ∧ (match q.2.2.2.2.1 with
      | 0 => Cond.instanceMethod m.2.2.2.2.1 ∈ lw_tbl ∧ Cond.selects m.2.2.2.2.1.cls m.2.2.2.2.1 m.2.2.2.2.1 ∈ lw_tbl
      | _ + 1 => Cond.static m.2.2.2.2.1 ∈ lw_tbl)
theorem z_Ce : Cond.initialized R_Ce ∈ lw_tbl := List.mem_of_getElem? (i := 119) (by decide +kernel)
theorem z_Ck : Cond.initialized R_Ck ∈ lw_tbl := List.mem_of_getElem? (i := 124) (by decide +kernel)
theorem z_Co : Cond.initialized R_Co ∈ lw_tbl := List.mem_of_getElem? (i := 117) (by decide +kernel)
theorem z_Ju : Cond.initialized R_Ju ∈ lw_tbl := List.mem_of_getElem? (i := 123) (by decide +kernel)
theorem z_Ma : Cond.initialized R_Ma ∈ lw_tbl := List.mem_of_getElem? (i := 122) (by decide +kernel)
theorem z_Me : Cond.initialized R_Me ∈ lw_tbl := List.mem_of_getElem? (i := 118) (by decide +kernel)
theorem z_No : Cond.initialized R_No ∈ lw_tbl := List.mem_of_getElem? (i := 116) (by decide +kernel)
theorem z_Pa : Cond.initialized R_Pa ∈ lw_tbl := List.mem_of_getElem? (i := 120) (by decide +kernel)
theorem z_Re : Cond.initialized R_Re ∈ lw_tbl := List.mem_of_getElem? (i := 121) (by decide +kernel)
theorem z_Ta : Cond.initialized R_Ta ∈ lw_tbl := List.mem_of_getElem? (i := 115) (by decide +kernel)
theorem z_Wr : Cond.initialized R_Wr ∈ lw_tbl := List.mem_of_getElem? (i := 125) (by decide +kernel)
theorem z_Fb : Cond.initialized R_Fb ∈ lw_tbl := List.mem_of_getElem? (i := 114) (by decide +kernel)
theorem z_Rm : Cond.initialized R_Rm ∈ lw_tbl := List.mem_of_getElem? (i := 126) (by decide +kernel)
set_option maxRecDepth 100000 in
theorem o_Fb_feed : c_mok D_Fb_feed := ⟨k_Fb_feed, List.mem_of_getElem? (i := 487) rfl, by decide, rfl, Or.inr (Or.inl ⟨rfl, rfl⟩), by decide, by decide, z_Fb, by decide⟩
theorem y_Fb_feed : Cond.instanceMethod ⟨R_Fb, "feed", "(JJJ)I"⟩ ∈ lw_tbl ∧ Cond.selects R_Fb ⟨R_Fb, "feed", "(JJJ)I"⟩ ⟨R_Fb, "feed", "(JJJ)I"⟩ ∈ lw_tbl := ⟨List.mem_of_getElem? (i := 485) (by decide +kernel), List.mem_of_getElem? (i := 486) (by decide +kernel)⟩
set_option maxRecDepth 100000 in
theorem o_Fb_declare : c_mok D_Fb_declare := ⟨k_Fb_declare, List.mem_of_getElem? (i := 500) rfl, by decide, rfl, Or.inr (Or.inl ⟨rfl, rfl⟩), by decide, by decide, z_Fb, by decide⟩
theorem y_Fb_declare : Cond.instanceMethod ⟨R_Fb, "declare", "()I"⟩ ∈ lw_tbl ∧ Cond.selects R_Fb ⟨R_Fb, "declare", "()I"⟩ ⟨R_Fb, "declare", "()I"⟩ ∈ lw_tbl := ⟨List.mem_of_getElem? (i := 498) (by decide +kernel), List.mem_of_getElem? (i := 499) (by decide +kernel)⟩
set_option maxRecDepth 100000 in
theorem o_Fb_canon : c_mok D_Fb_canon := ⟨k_Fb_canon, List.mem_of_getElem? (i := 977) rfl, by decide, rfl, Or.inr (Or.inl ⟨rfl, rfl⟩), by decide, by decide, z_Fb, by decide⟩
theorem y_Fb_canon : Cond.instanceMethod ⟨R_Fb, "canon", "()I"⟩ ∈ lw_tbl ∧ Cond.selects R_Fb ⟨R_Fb, "canon", "()I"⟩ ⟨R_Fb, "canon", "()I"⟩ ∈ lw_tbl := ⟨List.mem_of_getElem? (i := 975) (by decide +kernel), List.mem_of_getElem? (i := 976) (by decide +kernel)⟩
set_option maxRecDepth 100000 in
theorem o_Fb_type : c_mok D_Fb_type := ⟨k_Fb_type, List.mem_of_getElem? (i := 1097) rfl, by decide, rfl, Or.inr (Or.inl ⟨rfl, rfl⟩), by decide, by decide, z_Fb, by decide⟩
theorem y_Fb_type : Cond.instanceMethod ⟨R_Fb, "type", "()I"⟩ ∈ lw_tbl ∧ Cond.selects R_Fb ⟨R_Fb, "type", "()I"⟩ ⟨R_Fb, "type", "()I"⟩ ∈ lw_tbl := ⟨List.mem_of_getElem? (i := 1095) (by decide +kernel), List.mem_of_getElem? (i := 1096) (by decide +kernel)⟩
set_option maxRecDepth 100000 in
theorem o_Fb_equal : c_mok D_Fb_equal := ⟨k_Fb_equal, List.mem_of_getElem? (i := 1101) rfl, by decide, rfl, Or.inr (Or.inl ⟨rfl, rfl⟩), by decide, by decide, z_Fb, by decide⟩
theorem y_Fb_equal : Cond.instanceMethod ⟨R_Fb, "equal", "()I"⟩ ∈ lw_tbl ∧ Cond.selects R_Fb ⟨R_Fb, "equal", "()I"⟩ ⟨R_Fb, "equal", "()I"⟩ ∈ lw_tbl := ⟨List.mem_of_getElem? (i := 1099) (by decide +kernel), List.mem_of_getElem? (i := 1100) (by decide +kernel)⟩
set_option maxRecDepth 100000 in
theorem o_Fb_named : c_mok D_Fb_named := ⟨k_Fb_named, List.mem_of_getElem? (i := 1115) rfl, by decide, rfl, Or.inr (Or.inl ⟨rfl, rfl⟩), by decide, by decide, z_Fb, by decide⟩
theorem y_Fb_named : Cond.instanceMethod ⟨R_Fb, "named", "()I"⟩ ∈ lw_tbl ∧ Cond.selects R_Fb ⟨R_Fb, "named", "()I"⟩ ⟨R_Fb, "named", "()I"⟩ ∈ lw_tbl := ⟨List.mem_of_getElem? (i := 1113) (by decide +kernel), List.mem_of_getElem? (i := 1114) (by decide +kernel)⟩
set_option maxRecDepth 100000 in
theorem o_Fb_constant : c_mok D_Fb_constant := ⟨k_Fb_constant, List.mem_of_getElem? (i := 1125) rfl, by decide, rfl, Or.inr (Or.inl ⟨rfl, rfl⟩), by decide, by decide, z_Fb, by decide⟩
theorem y_Fb_constant : Cond.instanceMethod ⟨R_Fb, "constant", "(II)I"⟩ ∈ lw_tbl ∧ Cond.selects R_Fb ⟨R_Fb, "constant", "(II)I"⟩ ⟨R_Fb, "constant", "(II)I"⟩ ∈ lw_tbl := ⟨List.mem_of_getElem? (i := 1123) (by decide +kernel), List.mem_of_getElem? (i := 1124) (by decide +kernel)⟩
set_option maxRecDepth 100000 in
theorem o_Fb_size : c_mok D_Fb_size := ⟨k_Fb_size, List.mem_of_getElem? (i := 1141) rfl, by decide, rfl, Or.inr (Or.inl ⟨rfl, rfl⟩), by decide, by decide, z_Fb, by decide⟩
theorem y_Fb_size : Cond.instanceMethod ⟨R_Fb, "size", "()I"⟩ ∈ lw_tbl ∧ Cond.selects R_Fb ⟨R_Fb, "size", "()I"⟩ ⟨R_Fb, "size", "()I"⟩ ∈ lw_tbl := ⟨List.mem_of_getElem? (i := 1139) (by decide +kernel), List.mem_of_getElem? (i := 1140) (by decide +kernel)⟩
set_option maxRecDepth 100000 in
theorem o_Fb_out : c_mok D_Fb_out := ⟨k_Fb_out, List.mem_of_getElem? (i := 1149) rfl, by decide, rfl, Or.inr (Or.inl ⟨rfl, rfl⟩), by decide, by decide, z_Fb, by decide⟩
theorem y_Fb_out : Cond.instanceMethod ⟨R_Fb, "out", "(I)I"⟩ ∈ lw_tbl ∧ Cond.selects R_Fb ⟨R_Fb, "out", "(I)I"⟩ ⟨R_Fb, "out", "(I)I"⟩ ∈ lw_tbl := ⟨List.mem_of_getElem? (i := 1147) (by decide +kernel), List.mem_of_getElem? (i := 1148) (by decide +kernel)⟩
set_option maxRecDepth 100000 in
theorem o_Fb_forget : c_mok D_Fb_forget := ⟨k_Fb_forget, List.mem_of_getElem? (i := 1157) rfl, by decide, rfl, Or.inr (Or.inl ⟨rfl, rfl⟩), by decide, by decide, z_Fb, by decide⟩
theorem y_Fb_forget : Cond.instanceMethod ⟨R_Fb, "forget", "(I)I"⟩ ∈ lw_tbl ∧ Cond.selects R_Fb ⟨R_Fb, "forget", "(I)I"⟩ ⟨R_Fb, "forget", "(I)I"⟩ ∈ lw_tbl := ⟨List.mem_of_getElem? (i := 1155) (by decide +kernel), List.mem_of_getElem? (i := 1156) (by decide +kernel)⟩
set_option maxRecDepth 100000 in
theorem o_Fb_count : c_mok D_Fb_count := ⟨k_Fb_count, List.mem_of_getElem? (i := 1166) rfl, by decide, rfl, Or.inr (Or.inl ⟨rfl, rfl⟩), by decide, by decide, z_Fb, by decide⟩
theorem y_Fb_count : Cond.instanceMethod ⟨R_Fb, "count", "(I)I"⟩ ∈ lw_tbl ∧ Cond.selects R_Fb ⟨R_Fb, "count", "(I)I"⟩ ⟨R_Fb, "count", "(I)I"⟩ ∈ lw_tbl := ⟨List.mem_of_getElem? (i := 1164) (by decide +kernel), List.mem_of_getElem? (i := 1165) (by decide +kernel)⟩
set_option maxRecDepth 100000 in
theorem o_Fb_begin : c_mok D_Fb_begin := ⟨k_Fb_begin, List.mem_of_getElem? (i := 504) rfl, by decide, rfl, Or.inl ⟨rfl, rfl⟩, by decide, by decide, z_Fb, by decide⟩
theorem y_Fb_begin : Cond.instanceMethod ⟨R_Fb, "begin", "()V"⟩ ∈ lw_tbl ∧ Cond.selects R_Fb ⟨R_Fb, "begin", "()V"⟩ ⟨R_Fb, "begin", "()V"⟩ ∈ lw_tbl := ⟨List.mem_of_getElem? (i := 503) (by decide +kernel), List.mem_of_getElem? (i := 0) (by decide +kernel)⟩
set_option maxRecDepth 100000 in
theorem o_Fb_writtenForm : c_mok D_Fb_writtenForm := ⟨k_Fb_writtenForm, List.mem_of_getElem? (i := 981) rfl, by decide, rfl, Or.inr (Or.inl ⟨rfl, rfl⟩), by decide, by decide, z_Fb, by decide⟩
theorem y_Fb_writtenForm : Cond.instanceMethod ⟨R_Fb, "writtenForm", "(Z)I"⟩ ∈ lw_tbl ∧ Cond.selects R_Fb ⟨R_Fb, "writtenForm", "(Z)I"⟩ ⟨R_Fb, "writtenForm", "(Z)I"⟩ ∈ lw_tbl := ⟨List.mem_of_getElem? (i := 980) (by decide +kernel), List.mem_of_getElem? (i := 33) (by decide +kernel)⟩
set_option maxRecDepth 100000 in
theorem o_Fb_comparison : c_mok D_Fb_comparison := ⟨k_Fb_comparison, List.mem_of_getElem? (i := 1105) rfl, by decide, rfl, Or.inr (Or.inl ⟨rfl, rfl⟩), by decide, by decide, z_Fb, by decide⟩
theorem y_Fb_comparison : Cond.instanceMethod ⟨R_Fb, "comparison", "(II)I"⟩ ∈ lw_tbl ∧ Cond.selects R_Fb ⟨R_Fb, "comparison", "(II)I"⟩ ⟨R_Fb, "comparison", "(II)I"⟩ ∈ lw_tbl := ⟨List.mem_of_getElem? (i := 1104) (by decide +kernel), List.mem_of_getElem? (i := 44) (by decide +kernel)⟩
set_option maxRecDepth 100000 in
theorem o_Fb_troubleAtEnd : c_mok D_Fb_troubleAtEnd := ⟨k_Fb_troubleAtEnd, List.mem_of_getElem? (i := 1091) rfl, by decide, rfl, Or.inr (Or.inl ⟨rfl, rfl⟩), by decide, by decide, z_Fb, by decide⟩
theorem y_Fb_troubleAtEnd : Cond.instanceMethod ⟨R_Fb, "troubleAtEnd", "()I"⟩ ∈ lw_tbl ∧ Cond.selects R_Fb ⟨R_Fb, "troubleAtEnd", "()I"⟩ ⟨R_Fb, "troubleAtEnd", "()I"⟩ ∈ lw_tbl := ⟨List.mem_of_getElem? (i := 1090) (by decide +kernel), List.mem_of_getElem? (i := 43) (by decide +kernel)⟩
set_option maxRecDepth 100000 in
theorem o_Fb_faultAt : c_mok D_Fb_faultAt := ⟨k_Fb_faultAt, List.mem_of_getElem? (i := 579) rfl, by decide, rfl, Or.inr (Or.inl ⟨rfl, rfl⟩), by decide, by decide, z_Fb, by decide⟩
theorem y_Fb_faultAt : Cond.static ⟨R_Fb, "faultAt", "(II)I"⟩ ∈ lw_tbl := List.mem_of_getElem? (i := 578) (by decide +kernel)
set_option maxRecDepth 100000 in
theorem o_Fb_isLetter : c_mok D_Fb_isLetter := ⟨k_Fb_isLetter, List.mem_of_getElem? (i := 534) rfl, by decide, rfl, Or.inr (Or.inr ⟨rfl, rfl⟩), by decide, by decide, z_Fb, by decide⟩
theorem y_Fb_isLetter : Cond.static ⟨R_Fb, "isLetter", "(I)Z"⟩ ∈ lw_tbl := List.mem_of_getElem? (i := 533) (by decide +kernel)
set_option maxRecDepth 100000 in
theorem o_Fb_isDigit : c_mok D_Fb_isDigit := ⟨k_Fb_isDigit, List.mem_of_getElem? (i := 541) rfl, by decide, rfl, Or.inr (Or.inr ⟨rfl, rfl⟩), by decide, by decide, z_Fb, by decide⟩
theorem y_Fb_isDigit : Cond.static ⟨R_Fb, "isDigit", "(I)Z"⟩ ∈ lw_tbl := List.mem_of_getElem? (i := 540) (by decide +kernel)
set_option maxRecDepth 100000 in
theorem o_Rm_feed : c_mok D_Rm_feed := ⟨k_Rm_feed, List.mem_of_getElem? (i := 1402) rfl, by decide, rfl, Or.inr (Or.inl ⟨rfl, rfl⟩), by decide, by decide, z_Rm, by decide⟩
theorem y_Rm_feed : Cond.instanceMethod ⟨R_Rm, "feed", "(JJJ)I"⟩ ∈ lw_tbl ∧ Cond.selects R_Rm ⟨R_Rm, "feed", "(JJJ)I"⟩ ⟨R_Rm, "feed", "(JJJ)I"⟩ ∈ lw_tbl := ⟨List.mem_of_getElem? (i := 1400) (by decide +kernel), List.mem_of_getElem? (i := 1401) (by decide +kernel)⟩
set_option maxRecDepth 100000 in
theorem o_Rm_lay : c_mok D_Rm_lay := ⟨k_Rm_lay, List.mem_of_getElem? (i := 1406) rfl, by decide, rfl, Or.inl ⟨rfl, rfl⟩, by decide, by decide, z_Rm, by decide⟩
theorem y_Rm_lay : Cond.instanceMethod ⟨R_Rm, "lay", "(J)V"⟩ ∈ lw_tbl ∧ Cond.selects R_Rm ⟨R_Rm, "lay", "(J)V"⟩ ⟨R_Rm, "lay", "(J)V"⟩ ∈ lw_tbl := ⟨List.mem_of_getElem? (i := 1405) (by decide +kernel), List.mem_of_getElem? (i := 45) (by decide +kernel)⟩
set_option maxRecDepth 100000 in
theorem o_Rm_isLetter : c_mok D_Rm_isLetter := ⟨k_Rm_isLetter, List.mem_of_getElem? (i := 1422) rfl, by decide, rfl, Or.inr (Or.inr ⟨rfl, rfl⟩), by decide, by decide, z_Rm, by decide⟩
theorem y_Rm_isLetter : Cond.static ⟨R_Rm, "isLetter", "(I)Z"⟩ ∈ lw_tbl := List.mem_of_getElem? (i := 1421) (by decide +kernel)
set_option maxRecDepth 100000 in
theorem o_Rm_isDigit : c_mok D_Rm_isDigit := ⟨k_Rm_isDigit, List.mem_of_getElem? (i := 1425) rfl, by decide, rfl, Or.inr (Or.inr ⟨rfl, rfl⟩), by decide, by decide, z_Rm, by decide⟩
theorem y_Rm_isDigit : Cond.static ⟨R_Rm, "isDigit", "(I)Z"⟩ ∈ lw_tbl := List.mem_of_getElem? (i := 1424) (by decide +kernel)
set_option maxRecDepth 100000 in
theorem o_Rm_rank : c_mok D_Rm_rank := ⟨k_Rm_rank, List.mem_of_getElem? (i := 1429) rfl, by decide, rfl, Or.inr (Or.inl ⟨rfl, rfl⟩), by decide, by decide, z_Rm, by decide⟩
theorem y_Rm_rank : Cond.static ⟨R_Rm, "rank", "(I)I"⟩ ∈ lw_tbl := List.mem_of_getElem? (i := 1428) (by decide +kernel)
set_option maxRecDepth 100000 in
theorem o_Rm_isSignOf : c_mok D_Rm_isSignOf := ⟨k_Rm_isSignOf, List.mem_of_getElem? (i := 1432) rfl, by decide, rfl, Or.inr (Or.inr ⟨rfl, rfl⟩), by decide, by decide, z_Rm, by decide⟩
theorem y_Rm_isSignOf : Cond.static ⟨R_Rm, "isSignOf", "(I)Z"⟩ ∈ lw_tbl := List.mem_of_getElem? (i := 1431) (by decide +kernel)
set_option maxRecDepth 100000 in
theorem o_Rm_cutAll : c_mok D_Rm_cutAll := ⟨k_Rm_cutAll, List.mem_of_getElem? (i := 1419) rfl, by decide, rfl, Or.inl ⟨rfl, rfl⟩, by decide, by decide, z_Rm, by decide⟩
theorem y_Rm_cutAll : Cond.instanceMethod ⟨R_Rm, "cutAll", "()V"⟩ ∈ lw_tbl ∧ Cond.selects R_Rm ⟨R_Rm, "cutAll", "()V"⟩ ⟨R_Rm, "cutAll", "()V"⟩ ∈ lw_tbl := ⟨List.mem_of_getElem? (i := 1418) (by decide +kernel), List.mem_of_getElem? (i := 47) (by decide +kernel)⟩
set_option maxRecDepth 100000 in
theorem o_Rm_wrong : c_mok D_Rm_wrong := ⟨k_Rm_wrong, List.mem_of_getElem? (i := 1445) rfl, by decide, rfl, Or.inl ⟨rfl, rfl⟩, by decide, by decide, z_Rm, by decide⟩
theorem y_Rm_wrong : Cond.instanceMethod ⟨R_Rm, "wrong", "(II)V"⟩ ∈ lw_tbl ∧ Cond.selects R_Rm ⟨R_Rm, "wrong", "(II)V"⟩ ⟨R_Rm, "wrong", "(II)V"⟩ ∈ lw_tbl := ⟨List.mem_of_getElem? (i := 1444) (by decide +kernel), List.mem_of_getElem? (i := 50) (by decide +kernel)⟩
set_option maxRecDepth 100000 in
theorem o_Rm_isSign : c_mok D_Rm_isSign := ⟨k_Rm_isSign, List.mem_of_getElem? (i := 1457) rfl, by decide, rfl, Or.inr (Or.inr ⟨rfl, rfl⟩), by decide, by decide, z_Rm, by decide⟩
theorem y_Rm_isSign : Cond.instanceMethod ⟨R_Rm, "isSign", "(I)Z"⟩ ∈ lw_tbl ∧ Cond.selects R_Rm ⟨R_Rm, "isSign", "(I)Z"⟩ ⟨R_Rm, "isSign", "(I)Z"⟩ ∈ lw_tbl := ⟨List.mem_of_getElem? (i := 1456) (by decide +kernel), List.mem_of_getElem? (i := 53) (by decide +kernel)⟩
set_option maxRecDepth 100000 in
theorem o_Rm_isType : c_mok D_Rm_isType := ⟨k_Rm_isType, List.mem_of_getElem? (i := 1497) rfl, by decide, rfl, Or.inr (Or.inr ⟨rfl, rfl⟩), by decide, by decide, z_Rm, by decide⟩
theorem y_Rm_isType : Cond.instanceMethod ⟨R_Rm, "isType", "()Z"⟩ ∈ lw_tbl ∧ Cond.selects R_Rm ⟨R_Rm, "isType", "()Z"⟩ ⟨R_Rm, "isType", "()Z"⟩ ∈ lw_tbl := ⟨List.mem_of_getElem? (i := 1496) (by decide +kernel), List.mem_of_getElem? (i := 63) (by decide +kernel)⟩
set_option maxRecDepth 100000 in
theorem o_Rm_isName : c_mok D_Rm_isName := ⟨k_Rm_isName, List.mem_of_getElem? (i := 1440) rfl, by decide, rfl, Or.inr (Or.inr ⟨rfl, rfl⟩), by decide, by decide, z_Rm, by decide⟩
theorem y_Rm_isName : Cond.instanceMethod ⟨R_Rm, "isName", "()Z"⟩ ∈ lw_tbl ∧ Cond.selects R_Rm ⟨R_Rm, "isName", "()Z"⟩ ⟨R_Rm, "isName", "()Z"⟩ ∈ lw_tbl := ⟨List.mem_of_getElem? (i := 1439) (by decide +kernel), List.mem_of_getElem? (i := 49) (by decide +kernel)⟩
set_option maxRecDepth 100000 in
theorem o_Rm_takeSign : c_mok D_Rm_takeSign := ⟨k_Rm_takeSign, List.mem_of_getElem? (i := 1453) rfl, by decide, rfl, Or.inl ⟨rfl, rfl⟩, by decide, by decide, z_Rm, by decide⟩
theorem y_Rm_takeSign : Cond.instanceMethod ⟨R_Rm, "takeSign", "(I)V"⟩ ∈ lw_tbl ∧ Cond.selects R_Rm ⟨R_Rm, "takeSign", "(I)V"⟩ ⟨R_Rm, "takeSign", "(I)V"⟩ ∈ lw_tbl := ⟨List.mem_of_getElem? (i := 1452) (by decide +kernel), List.mem_of_getElem? (i := 52) (by decide +kernel)⟩
set_option maxRecDepth 100000 in
theorem o_Rm_node : c_mok D_Rm_node := ⟨k_Rm_node, List.mem_of_getElem? (i := 1485) rfl, by decide, rfl, Or.inr (Or.inl ⟨rfl, rfl⟩), by decide, by decide, z_Rm, by decide⟩
theorem y_Rm_node : Cond.instanceMethod ⟨R_Rm, "node", "(IIIII)I"⟩ ∈ lw_tbl ∧ Cond.selects R_Rm ⟨R_Rm, "node", "(IIIII)I"⟩ ⟨R_Rm, "node", "(IIIII)I"⟩ ∈ lw_tbl := ⟨List.mem_of_getElem? (i := 1484) (by decide +kernel), List.mem_of_getElem? (i := 60) (by decide +kernel)⟩
set_option maxRecDepth 100000 in
theorem o_Rm_typeNode : c_mok D_Rm_typeNode := ⟨k_Rm_typeNode, List.mem_of_getElem? (i := 1566) rfl, by decide, rfl, Or.inr (Or.inl ⟨rfl, rfl⟩), by decide, by decide, z_Rm, by decide⟩
theorem y_Rm_typeNode : Cond.instanceMethod ⟨R_Rm, "typeNode", "(III)I"⟩ ∈ lw_tbl ∧ Cond.selects R_Rm ⟨R_Rm, "typeNode", "(III)I"⟩ ⟨R_Rm, "typeNode", "(III)I"⟩ ∈ lw_tbl := ⟨List.mem_of_getElem? (i := 1565) (by decide +kernel), List.mem_of_getElem? (i := 80) (by decide +kernel)⟩
set_option maxRecDepth 100000 in
theorem o_Rm_within : c_mok D_Rm_within := ⟨k_Rm_within, List.mem_of_getElem? (i := 1473) rfl, by decide, rfl, Or.inl ⟨rfl, rfl⟩, by decide, by decide, z_Rm, by decide⟩
theorem y_Rm_within : Cond.instanceMethod ⟨R_Rm, "within", "()V"⟩ ∈ lw_tbl ∧ Cond.selects R_Rm ⟨R_Rm, "within", "()V"⟩ ⟨R_Rm, "within", "()V"⟩ ∈ lw_tbl := ⟨List.mem_of_getElem? (i := 1472) (by decide +kernel), List.mem_of_getElem? (i := 57) (by decide +kernel)⟩
set_option maxRecDepth 100000 in
theorem o_Rm_counts : c_mok D_Rm_counts := ⟨k_Rm_counts, List.mem_of_getElem? (i := 1481) rfl, by decide, rfl, Or.inl ⟨rfl, rfl⟩, by decide, by decide, z_Rm, by decide⟩
theorem y_Rm_counts : Cond.instanceMethod ⟨R_Rm, "counts", "()V"⟩ ∈ lw_tbl ∧ Cond.selects R_Rm ⟨R_Rm, "counts", "()V"⟩ ⟨R_Rm, "counts", "()V"⟩ ∈ lw_tbl := ⟨List.mem_of_getElem? (i := 1480) (by decide +kernel), List.mem_of_getElem? (i := 59) (by decide +kernel)⟩
set_option maxRecDepth 100000 in
theorem o_Rm_readWhole : c_mok D_Rm_readWhole := ⟨k_Rm_readWhole, List.mem_of_getElem? (i := 1461) rfl, by decide, rfl, Or.inr (Or.inl ⟨rfl, rfl⟩), by decide, by decide, z_Rm, by decide⟩
theorem y_Rm_readWhole : Cond.instanceMethod ⟨R_Rm, "readWhole", "()I"⟩ ∈ lw_tbl ∧ Cond.selects R_Rm ⟨R_Rm, "readWhole", "()I"⟩ ⟨R_Rm, "readWhole", "()I"⟩ ∈ lw_tbl := ⟨List.mem_of_getElem? (i := 1460) (by decide +kernel), List.mem_of_getElem? (i := 54) (by decide +kernel)⟩
set_option maxRecDepth 100000 in
theorem o_Rm_isP : c_mok D_Rm_isP := ⟨k_Rm_isP, List.mem_of_getElem? (i := 1469) rfl, by decide, rfl, Or.inr (Or.inr ⟨rfl, rfl⟩), by decide, by decide, z_Rm, by decide⟩
theorem y_Rm_isP : Cond.instanceMethod ⟨R_Rm, "isP", "()Z"⟩ ∈ lw_tbl ∧ Cond.selects R_Rm ⟨R_Rm, "isP", "()Z"⟩ ⟨R_Rm, "isP", "()Z"⟩ ∈ lw_tbl := ⟨List.mem_of_getElem? (i := 1468) (by decide +kernel), List.mem_of_getElem? (i := 56) (by decide +kernel)⟩
set_option maxRecDepth 100000 in
theorem o_Rm_readE : c_mok D_Rm_readE := ⟨k_Rm_readE, List.mem_of_getElem? (i := 1465) rfl, by decide, rfl, Or.inr (Or.inl ⟨rfl, rfl⟩), by decide, by decide, z_Rm, by decide⟩
theorem y_Rm_readE : Cond.instanceMethod ⟨R_Rm, "readE", "()I"⟩ ∈ lw_tbl ∧ Cond.selects R_Rm ⟨R_Rm, "readE", "()I"⟩ ⟨R_Rm, "readE", "()I"⟩ ∈ lw_tbl := ⟨List.mem_of_getElem? (i := 1464) (by decide +kernel), List.mem_of_getElem? (i := 55) (by decide +kernel)⟩
set_option maxRecDepth 100000 in
theorem o_Rm_readBinder : c_mok D_Rm_readBinder := ⟨k_Rm_readBinder, List.mem_of_getElem? (i := 1477) rfl, by decide, rfl, Or.inr (Or.inl ⟨rfl, rfl⟩), by decide, by decide, z_Rm, by decide⟩
theorem y_Rm_readBinder : Cond.instanceMethod ⟨R_Rm, "readBinder", "(Z)I"⟩ ∈ lw_tbl ∧ Cond.selects R_Rm ⟨R_Rm, "readBinder", "(Z)I"⟩ ⟨R_Rm, "readBinder", "(Z)I"⟩ ∈ lw_tbl := ⟨List.mem_of_getElem? (i := 1476) (by decide +kernel), List.mem_of_getElem? (i := 58) (by decide +kernel)⟩
set_option maxRecDepth 100000 in
theorem o_Rm_readA : c_mok D_Rm_readA := ⟨k_Rm_readA, List.mem_of_getElem? (i := 1489) rfl, by decide, rfl, Or.inr (Or.inl ⟨rfl, rfl⟩), by decide, by decide, z_Rm, by decide⟩
theorem y_Rm_readA : Cond.instanceMethod ⟨R_Rm, "readA", "()I"⟩ ∈ lw_tbl ∧ Cond.selects R_Rm ⟨R_Rm, "readA", "()I"⟩ ⟨R_Rm, "readA", "()I"⟩ ∈ lw_tbl := ⟨List.mem_of_getElem? (i := 1488) (by decide +kernel), List.mem_of_getElem? (i := 61) (by decide +kernel)⟩
set_option maxRecDepth 100000 in
theorem o_Rm_readP : c_mok D_Rm_readP := ⟨k_Rm_readP, List.mem_of_getElem? (i := 1493) rfl, by decide, rfl, Or.inr (Or.inl ⟨rfl, rfl⟩), by decide, by decide, z_Rm, by decide⟩
theorem y_Rm_readP : Cond.instanceMethod ⟨R_Rm, "readP", "()I"⟩ ∈ lw_tbl ∧ Cond.selects R_Rm ⟨R_Rm, "readP", "()I"⟩ ⟨R_Rm, "readP", "()I"⟩ ∈ lw_tbl := ⟨List.mem_of_getElem? (i := 1492) (by decide +kernel), List.mem_of_getElem? (i := 62) (by decide +kernel)⟩
set_option maxRecDepth 100000 in
theorem o_Rm_constantOf : c_mok D_Rm_constantOf := ⟨k_Rm_constantOf, List.mem_of_getElem? (i := 1449) rfl, by decide, rfl, Or.inr (Or.inl ⟨rfl, rfl⟩), by decide, by decide, z_Rm, by decide⟩
theorem y_Rm_constantOf : Cond.instanceMethod ⟨R_Rm, "constantOf", "(I)I"⟩ ∈ lw_tbl ∧ Cond.selects R_Rm ⟨R_Rm, "constantOf", "(I)I"⟩ ⟨R_Rm, "constantOf", "(I)I"⟩ ∈ lw_tbl := ⟨List.mem_of_getElem? (i := 1448) (by decide +kernel), List.mem_of_getElem? (i := 51) (by decide +kernel)⟩
set_option maxRecDepth 100000 in
theorem o_Rm_closure : c_mok D_Rm_closure := ⟨k_Rm_closure, List.mem_of_getElem? (i := 1522) rfl, by decide, rfl, Or.inr (Or.inl ⟨rfl, rfl⟩), by decide, by decide, z_Rm, by decide⟩
theorem y_Rm_closure : Cond.instanceMethod ⟨R_Rm, "closure", "(II)I"⟩ ∈ lw_tbl ∧ Cond.selects R_Rm ⟨R_Rm, "closure", "(II)I"⟩ ⟨R_Rm, "closure", "(II)I"⟩ ∈ lw_tbl := ⟨List.mem_of_getElem? (i := 1521) (by decide +kernel), List.mem_of_getElem? (i := 69) (by decide +kernel)⟩
set_option maxRecDepth 100000 in
theorem o_Rm_list : c_mok D_Rm_list := ⟨k_Rm_list, List.mem_of_getElem? (i := 1526) rfl, by decide, rfl, Or.inr (Or.inl ⟨rfl, rfl⟩), by decide, by decide, z_Rm, by decide⟩
theorem y_Rm_list : Cond.instanceMethod ⟨R_Rm, "list", "(II)I"⟩ ∈ lw_tbl ∧ Cond.selects R_Rm ⟨R_Rm, "list", "(II)I"⟩ ⟨R_Rm, "list", "(II)I"⟩ ∈ lw_tbl := ⟨List.mem_of_getElem? (i := 1525) (by decide +kernel), List.mem_of_getElem? (i := 70) (by decide +kernel)⟩
set_option maxRecDepth 100000 in
theorem o_Rm_behind : c_mok D_Rm_behind := ⟨k_Rm_behind, List.mem_of_getElem? (i := 1610) rfl, by decide, rfl, Or.inr (Or.inl ⟨rfl, rfl⟩), by decide, by decide, z_Rm, by decide⟩
theorem y_Rm_behind : Cond.instanceMethod ⟨R_Rm, "behind", "(II)I"⟩ ∈ lw_tbl ∧ Cond.selects R_Rm ⟨R_Rm, "behind", "(II)I"⟩ ⟨R_Rm, "behind", "(II)I"⟩ ∈ lw_tbl := ⟨List.mem_of_getElem? (i := 1609) (by decide +kernel), List.mem_of_getElem? (i := 91) (by decide +kernel)⟩
set_option maxRecDepth 100000 in
theorem o_Rm_newVar : c_mok D_Rm_newVar := ⟨k_Rm_newVar, List.mem_of_getElem? (i := 1518) rfl, by decide, rfl, Or.inr (Or.inl ⟨rfl, rfl⟩), by decide, by decide, z_Rm, by decide⟩
theorem y_Rm_newVar : Cond.instanceMethod ⟨R_Rm, "newVar", "(III)I"⟩ ∈ lw_tbl ∧ Cond.selects R_Rm ⟨R_Rm, "newVar", "(III)I"⟩ ⟨R_Rm, "newVar", "(III)I"⟩ ∈ lw_tbl := ⟨List.mem_of_getElem? (i := 1517) (by decide +kernel), List.mem_of_getElem? (i := 68) (by decide +kernel)⟩
set_option maxRecDepth 100000 in
theorem o_Rm_step : c_mok D_Rm_step := ⟨k_Rm_step, List.mem_of_getElem? (i := 1509) rfl, by decide, rfl, Or.inr (Or.inr ⟨rfl, rfl⟩), by decide, by decide, z_Rm, by decide⟩
theorem y_Rm_step : Cond.instanceMethod ⟨R_Rm, "step", "()Z"⟩ ∈ lw_tbl ∧ Cond.selects R_Rm ⟨R_Rm, "step", "()Z"⟩ ⟨R_Rm, "step", "()Z"⟩ ∈ lw_tbl := ⟨List.mem_of_getElem? (i := 1508) (by decide +kernel), List.mem_of_getElem? (i := 66) (by decide +kernel)⟩
set_option maxRecDepth 100000 in
theorem o_Rm_stepAt : c_mok D_Rm_stepAt := ⟨k_Rm_stepAt, List.mem_of_getElem? (i := 1505) rfl, by decide, rfl, Or.inl ⟨rfl, rfl⟩, by decide, by decide, z_Rm, by decide⟩
theorem y_Rm_stepAt : Cond.instanceMethod ⟨R_Rm, "stepAt", "(I)V"⟩ ∈ lw_tbl ∧ Cond.selects R_Rm ⟨R_Rm, "stepAt", "(I)V"⟩ ⟨R_Rm, "stepAt", "(I)V"⟩ ∈ lw_tbl := ⟨List.mem_of_getElem? (i := 1504) (by decide +kernel), List.mem_of_getElem? (i := 65) (by decide +kernel)⟩
set_option maxRecDepth 100000 in
theorem o_Rm_begins : c_mok D_Rm_begins := ⟨k_Rm_begins, List.mem_of_getElem? (i := 1414) rfl, by decide, rfl, Or.inl ⟨rfl, rfl⟩, by decide, by decide, z_Rm, by decide⟩
theorem y_Rm_begins : Cond.instanceMethod ⟨R_Rm, "begins", "()V"⟩ ∈ lw_tbl ∧ Cond.selects R_Rm ⟨R_Rm, "begins", "()V"⟩ ⟨R_Rm, "begins", "()V"⟩ ∈ lw_tbl := ⟨List.mem_of_getElem? (i := 1413) (by decide +kernel), List.mem_of_getElem? (i := 46) (by decide +kernel)⟩
set_option maxRecDepth 100000 in
theorem o_Rm_shows : c_mok D_Rm_shows := ⟨k_Rm_shows, List.mem_of_getElem? (i := 1546) rfl, by decide, rfl, Or.inr (Or.inr ⟨rfl, rfl⟩), by decide, by decide, z_Rm, by decide⟩
theorem y_Rm_shows : Cond.instanceMethod ⟨R_Rm, "shows", "(II)Z"⟩ ∈ lw_tbl ∧ Cond.selects R_Rm ⟨R_Rm, "shows", "(II)Z"⟩ ⟨R_Rm, "shows", "(II)Z"⟩ ∈ lw_tbl := ⟨List.mem_of_getElem? (i := 1545) (by decide +kernel), List.mem_of_getElem? (i := 75) (by decide +kernel)⟩
set_option maxRecDepth 100000 in
theorem o_Rm_shown : c_mok D_Rm_shown := ⟨k_Rm_shown, List.mem_of_getElem? (i := 1554) rfl, by decide, rfl, Or.inr (Or.inr ⟨rfl, rfl⟩), by decide, by decide, z_Rm, by decide⟩
theorem y_Rm_shown : Cond.instanceMethod ⟨R_Rm, "shown", "(II)Z"⟩ ∈ lw_tbl ∧ Cond.selects R_Rm ⟨R_Rm, "shown", "(II)Z"⟩ ⟨R_Rm, "shown", "(II)Z"⟩ ∈ lw_tbl := ⟨List.mem_of_getElem? (i := 1553) (by decide +kernel), List.mem_of_getElem? (i := 77) (by decide +kernel)⟩
set_option maxRecDepth 100000 in
theorem o_Rm_without : c_mok D_Rm_without := ⟨k_Rm_without, List.mem_of_getElem? (i := 1550) rfl, by decide, rfl, Or.inr (Or.inl ⟨rfl, rfl⟩), by decide, by decide, z_Rm, by decide⟩
theorem y_Rm_without : Cond.instanceMethod ⟨R_Rm, "without", "(II)I"⟩ ∈ lw_tbl ∧ Cond.selects R_Rm ⟨R_Rm, "without", "(II)I"⟩ ⟨R_Rm, "without", "(II)I"⟩ ∈ lw_tbl := ⟨List.mem_of_getElem? (i := 1549) (by decide +kernel), List.mem_of_getElem? (i := 76) (by decide +kernel)⟩
set_option maxRecDepth 100000 in
theorem o_Rm_heads : c_mok D_Rm_heads := ⟨k_Rm_heads, List.mem_of_getElem? (i := 1630) rfl, by decide, rfl, Or.inr (Or.inl ⟨rfl, rfl⟩), by decide, by decide, z_Rm, by decide⟩
theorem y_Rm_heads : Cond.instanceMethod ⟨R_Rm, "heads", "(II)I"⟩ ∈ lw_tbl ∧ Cond.selects R_Rm ⟨R_Rm, "heads", "(II)I"⟩ ⟨R_Rm, "heads", "(II)I"⟩ ∈ lw_tbl := ⟨List.mem_of_getElem? (i := 1629) (by decide +kernel), List.mem_of_getElem? (i := 96) (by decide +kernel)⟩
set_option maxRecDepth 100000 in
theorem o_Rm_manyBehind : c_mok D_Rm_manyBehind := ⟨k_Rm_manyBehind, List.mem_of_getElem? (i := 1634) rfl, by decide, rfl, Or.inr (Or.inl ⟨rfl, rfl⟩), by decide, by decide, z_Rm, by decide⟩
theorem y_Rm_manyBehind : Cond.instanceMethod ⟨R_Rm, "manyBehind", "(I)I"⟩ ∈ lw_tbl ∧ Cond.selects R_Rm ⟨R_Rm, "manyBehind", "(I)I"⟩ ⟨R_Rm, "manyBehind", "(I)I"⟩ ∈ lw_tbl := ⟨List.mem_of_getElem? (i := 1633) (by decide +kernel), List.mem_of_getElem? (i := 97) (by decide +kernel)⟩
set_option maxRecDepth 100000 in
theorem o_Rm_asks : c_mok D_Rm_asks := ⟨k_Rm_asks, List.mem_of_getElem? (i := 1594) rfl, by decide, rfl, Or.inr (Or.inl ⟨rfl, rfl⟩), by decide, by decide, z_Rm, by decide⟩
theorem y_Rm_asks : Cond.instanceMethod ⟨R_Rm, "asks", "()I"⟩ ∈ lw_tbl ∧ Cond.selects R_Rm ⟨R_Rm, "asks", "()I"⟩ ⟨R_Rm, "asks", "()I"⟩ ∈ lw_tbl := ⟨List.mem_of_getElem? (i := 1593) (by decide +kernel), List.mem_of_getElem? (i := 87) (by decide +kernel)⟩
set_option maxRecDepth 100000 in
theorem o_Rm_sameFamilies : c_mok D_Rm_sameFamilies := ⟨k_Rm_sameFamilies, List.mem_of_getElem? (i := 1590) rfl, by decide, rfl, Or.inr (Or.inl ⟨rfl, rfl⟩), by decide, by decide, z_Rm, by decide⟩
theorem y_Rm_sameFamilies : Cond.instanceMethod ⟨R_Rm, "sameFamilies", "(IIII)I"⟩ ∈ lw_tbl ∧ Cond.selects R_Rm ⟨R_Rm, "sameFamilies", "(IIII)I"⟩ ⟨R_Rm, "sameFamilies", "(IIII)I"⟩ ∈ lw_tbl := ⟨List.mem_of_getElem? (i := 1589) (by decide +kernel), List.mem_of_getElem? (i := 86) (by decide +kernel)⟩
set_option maxRecDepth 100000 in
theorem o_Rm_sameAsked : c_mok D_Rm_sameAsked := ⟨k_Rm_sameAsked, List.mem_of_getElem? (i := 1598) rfl, by decide, rfl, Or.inr (Or.inl ⟨rfl, rfl⟩), by decide, by decide, z_Rm, by decide⟩
theorem y_Rm_sameAsked : Cond.instanceMethod ⟨R_Rm, "sameAsked", "(IIII)I"⟩ ∈ lw_tbl ∧ Cond.selects R_Rm ⟨R_Rm, "sameAsked", "(IIII)I"⟩ ⟨R_Rm, "sameAsked", "(IIII)I"⟩ ∈ lw_tbl := ⟨List.mem_of_getElem? (i := 1597) (by decide +kernel), List.mem_of_getElem? (i := 88) (by decide +kernel)⟩
set_option maxRecDepth 100000 in
theorem o_Rm_behindOf : c_mok D_Rm_behindOf := ⟨k_Rm_behindOf, List.mem_of_getElem? (i := 1606) rfl, by decide, rfl, Or.inr (Or.inl ⟨rfl, rfl⟩), by decide, by decide, z_Rm, by decide⟩
theorem y_Rm_behindOf : Cond.instanceMethod ⟨R_Rm, "behindOf", "(II)I"⟩ ∈ lw_tbl ∧ Cond.selects R_Rm ⟨R_Rm, "behindOf", "(II)I"⟩ ⟨R_Rm, "behindOf", "(II)I"⟩ ∈ lw_tbl := ⟨List.mem_of_getElem? (i := 1605) (by decide +kernel), List.mem_of_getElem? (i := 90) (by decide +kernel)⟩
set_option maxRecDepth 100000 in
theorem o_Rm_sameSpines : c_mok D_Rm_sameSpines := ⟨k_Rm_sameSpines, List.mem_of_getElem? (i := 1602) rfl, by decide, rfl, Or.inr (Or.inl ⟨rfl, rfl⟩), by decide, by decide, z_Rm, by decide⟩
theorem y_Rm_sameSpines : Cond.instanceMethod ⟨R_Rm, "sameSpines", "(IIII)I"⟩ ∈ lw_tbl ∧ Cond.selects R_Rm ⟨R_Rm, "sameSpines", "(IIII)I"⟩ ⟨R_Rm, "sameSpines", "(IIII)I"⟩ ∈ lw_tbl := ⟨List.mem_of_getElem? (i := 1601) (by decide +kernel), List.mem_of_getElem? (i := 89) (by decide +kernel)⟩
set_option maxRecDepth 100000 in
theorem o_Rm_sameBehind : c_mok D_Rm_sameBehind := ⟨k_Rm_sameBehind, List.mem_of_getElem? (i := 1614) rfl, by decide, rfl, Or.inr (Or.inl ⟨rfl, rfl⟩), by decide, by decide, z_Rm, by decide⟩
theorem y_Rm_sameBehind : Cond.instanceMethod ⟨R_Rm, "sameBehind", "(IIII)I"⟩ ∈ lw_tbl ∧ Cond.selects R_Rm ⟨R_Rm, "sameBehind", "(IIII)I"⟩ ⟨R_Rm, "sameBehind", "(IIII)I"⟩ ∈ lw_tbl := ⟨List.mem_of_getElem? (i := 1613) (by decide +kernel), List.mem_of_getElem? (i := 92) (by decide +kernel)⟩
set_option maxRecDepth 100000 in
theorem o_Rm_append : c_mok D_Rm_append := ⟨k_Rm_append, List.mem_of_getElem? (i := 1626) rfl, by decide, rfl, Or.inr (Or.inl ⟨rfl, rfl⟩), by decide, by decide, z_Rm, by decide⟩
theorem y_Rm_append : Cond.instanceMethod ⟨R_Rm, "append", "(II)I"⟩ ∈ lw_tbl ∧ Cond.selects R_Rm ⟨R_Rm, "append", "(II)I"⟩ ⟨R_Rm, "append", "(II)I"⟩ ∈ lw_tbl := ⟨List.mem_of_getElem? (i := 1625) (by decide +kernel), List.mem_of_getElem? (i := 95) (by decide +kernel)⟩
set_option maxRecDepth 100000 in
theorem o_Rm_sameObjects : c_mok D_Rm_sameObjects := ⟨k_Rm_sameObjects, List.mem_of_getElem? (i := 1618) rfl, by decide, rfl, Or.inr (Or.inl ⟨rfl, rfl⟩), by decide, by decide, z_Rm, by decide⟩
theorem y_Rm_sameObjects : Cond.instanceMethod ⟨R_Rm, "sameObjects", "(IIIIII)I"⟩ ∈ lw_tbl ∧ Cond.selects R_Rm ⟨R_Rm, "sameObjects", "(IIIIII)I"⟩ ⟨R_Rm, "sameObjects", "(IIIIII)I"⟩ ∈ lw_tbl := ⟨List.mem_of_getElem? (i := 1617) (by decide +kernel), List.mem_of_getElem? (i := 93) (by decide +kernel)⟩
set_option maxRecDepth 100000 in
theorem o_Rm_sameObjectsAsked : c_mok D_Rm_sameObjectsAsked := ⟨k_Rm_sameObjectsAsked, List.mem_of_getElem? (i := 1622) rfl, by decide, rfl, Or.inr (Or.inl ⟨rfl, rfl⟩), by decide, by decide, z_Rm, by decide⟩
theorem y_Rm_sameObjectsAsked : Cond.instanceMethod ⟨R_Rm, "sameObjectsAsked", "(IIIIII)I"⟩ ∈ lw_tbl ∧ Cond.selects R_Rm ⟨R_Rm, "sameObjectsAsked", "(IIIIII)I"⟩ ⟨R_Rm, "sameObjectsAsked", "(IIIIII)I"⟩ ∈ lw_tbl := ⟨List.mem_of_getElem? (i := 1621) (by decide +kernel), List.mem_of_getElem? (i := 94) (by decide +kernel)⟩
set_option maxRecDepth 100000 in
theorem o_Rm_equalFamilies : c_mok D_Rm_equalFamilies := ⟨k_Rm_equalFamilies, List.mem_of_getElem? (i := 1586) rfl, by decide, rfl, Or.inr (Or.inl ⟨rfl, rfl⟩), by decide, by decide, z_Rm, by decide⟩
theorem y_Rm_equalFamilies : Cond.instanceMethod ⟨R_Rm, "equalFamilies", "(IIII)I"⟩ ∈ lw_tbl ∧ Cond.selects R_Rm ⟨R_Rm, "equalFamilies", "(IIII)I"⟩ ⟨R_Rm, "equalFamilies", "(IIII)I"⟩ ∈ lw_tbl := ⟨List.mem_of_getElem? (i := 1585) (by decide +kernel), List.mem_of_getElem? (i := 85) (by decide +kernel)⟩
set_option maxRecDepth 100000 in
theorem o_Rm_wanted : c_mok D_Rm_wanted := ⟨k_Rm_wanted, List.mem_of_getElem? (i := 1582) rfl, by decide, rfl, Or.inl ⟨rfl, rfl⟩, by decide, by decide, z_Rm, by decide⟩
theorem y_Rm_wanted : Cond.instanceMethod ⟨R_Rm, "wanted", "(IIIII)V"⟩ ∈ lw_tbl ∧ Cond.selects R_Rm ⟨R_Rm, "wanted", "(IIIII)V"⟩ ⟨R_Rm, "wanted", "(IIIII)V"⟩ ∈ lw_tbl := ⟨List.mem_of_getElem? (i := 1581) (by decide +kernel), List.mem_of_getElem? (i := 84) (by decide +kernel)⟩
set_option maxRecDepth 100000 in
theorem o_Rm_bind : c_mok D_Rm_bind := ⟨k_Rm_bind, List.mem_of_getElem? (i := 1514) rfl, by decide, rfl, Or.inl ⟨rfl, rfl⟩, by decide, by decide, z_Rm, by decide⟩
theorem y_Rm_bind : Cond.instanceMethod ⟨R_Rm, "bind", "(I)V"⟩ ∈ lw_tbl ∧ Cond.selects R_Rm ⟨R_Rm, "bind", "(I)V"⟩ ⟨R_Rm, "bind", "(I)V"⟩ ∈ lw_tbl := ⟨List.mem_of_getElem? (i := 1513) (by decide +kernel), List.mem_of_getElem? (i := 67) (by decide +kernel)⟩
set_option maxRecDepth 100000 in
theorem o_Rm_unbind : c_mok D_Rm_unbind := ⟨k_Rm_unbind, List.mem_of_getElem? (i := 1530) rfl, by decide, rfl, Or.inl ⟨rfl, rfl⟩, by decide, by decide, z_Rm, by decide⟩
theorem y_Rm_unbind : Cond.instanceMethod ⟨R_Rm, "unbind", "()V"⟩ ∈ lw_tbl ∧ Cond.selects R_Rm ⟨R_Rm, "unbind", "()V"⟩ ⟨R_Rm, "unbind", "()V"⟩ ∈ lw_tbl := ⟨List.mem_of_getElem? (i := 1529) (by decide +kernel), List.mem_of_getElem? (i := 71) (by decide +kernel)⟩
set_option maxRecDepth 100000 in
theorem o_Rm_find : c_mok D_Rm_find := ⟨k_Rm_find, List.mem_of_getElem? (i := 1538) rfl, by decide, rfl, Or.inl ⟨rfl, rfl⟩, by decide, by decide, z_Rm, by decide⟩
theorem y_Rm_find : Cond.instanceMethod ⟨R_Rm, "find", "(I)V"⟩ ∈ lw_tbl ∧ Cond.selects R_Rm ⟨R_Rm, "find", "(I)V"⟩ ⟨R_Rm, "find", "(I)V"⟩ ∈ lw_tbl := ⟨List.mem_of_getElem? (i := 1537) (by decide +kernel), List.mem_of_getElem? (i := 73) (by decide +kernel)⟩
set_option maxRecDepth 100000 in
theorem o_Rm_isFamilyNode : c_mok D_Rm_isFamilyNode := ⟨k_Rm_isFamilyNode, List.mem_of_getElem? (i := 1542) rfl, by decide, rfl, Or.inr (Or.inr ⟨rfl, rfl⟩), by decide, by decide, z_Rm, by decide⟩
theorem y_Rm_isFamilyNode : Cond.instanceMethod ⟨R_Rm, "isFamilyNode", "(I)Z"⟩ ∈ lw_tbl ∧ Cond.selects R_Rm ⟨R_Rm, "isFamilyNode", "(I)Z"⟩ ⟨R_Rm, "isFamilyNode", "(I)Z"⟩ ∈ lw_tbl := ⟨List.mem_of_getElem? (i := 1541) (by decide +kernel), List.mem_of_getElem? (i := 74) (by decide +kernel)⟩
set_option maxRecDepth 100000 in
theorem o_Rm_family : c_mok D_Rm_family := ⟨k_Rm_family, List.mem_of_getElem? (i := 1501) rfl, by decide, rfl, Or.inl ⟨rfl, rfl⟩, by decide, by decide, z_Rm, by decide⟩
theorem y_Rm_family : Cond.instanceMethod ⟨R_Rm, "family", "(IZ)V"⟩ ∈ lw_tbl ∧ Cond.selects R_Rm ⟨R_Rm, "family", "(IZ)V"⟩ ⟨R_Rm, "family", "(IZ)V"⟩ ∈ lw_tbl := ⟨List.mem_of_getElem? (i := 1500) (by decide +kernel), List.mem_of_getElem? (i := 64) (by decide +kernel)⟩
set_option maxRecDepth 100000 in
theorem o_Rm_familyBehind : c_mok D_Rm_familyBehind := ⟨k_Rm_familyBehind, List.mem_of_getElem? (i := 1534) rfl, by decide, rfl, Or.inl ⟨rfl, rfl⟩, by decide, by decide, z_Rm, by decide⟩
theorem y_Rm_familyBehind : Cond.instanceMethod ⟨R_Rm, "familyBehind", "(I)V"⟩ ∈ lw_tbl ∧ Cond.selects R_Rm ⟨R_Rm, "familyBehind", "(I)V"⟩ ⟨R_Rm, "familyBehind", "(I)V"⟩ ∈ lw_tbl := ⟨List.mem_of_getElem? (i := 1533) (by decide +kernel), List.mem_of_getElem? (i := 72) (by decide +kernel)⟩
set_option maxRecDepth 100000 in
theorem o_Rm_is : c_mok D_Rm_is := ⟨k_Rm_is, List.mem_of_getElem? (i := 1570) rfl, by decide, rfl, Or.inl ⟨rfl, rfl⟩, by decide, by decide, z_Rm, by decide⟩
theorem y_Rm_is : Cond.instanceMethod ⟨R_Rm, "is", "(III)V"⟩ ∈ lw_tbl ∧ Cond.selects R_Rm ⟨R_Rm, "is", "(III)V"⟩ ⟨R_Rm, "is", "(III)V"⟩ ∈ lw_tbl := ⟨List.mem_of_getElem? (i := 1569) (by decide +kernel), List.mem_of_getElem? (i := 81) (by decide +kernel)⟩
set_option maxRecDepth 100000 in
theorem o_Rm_object : c_mok D_Rm_object := ⟨k_Rm_object, List.mem_of_getElem? (i := 1558) rfl, by decide, rfl, Or.inl ⟨rfl, rfl⟩, by decide, by decide, z_Rm, by decide⟩
theorem y_Rm_object : Cond.instanceMethod ⟨R_Rm, "object", "(I)V"⟩ ∈ lw_tbl ∧ Cond.selects R_Rm ⟨R_Rm, "object", "(I)V"⟩ ⟨R_Rm, "object", "(I)V"⟩ ∈ lw_tbl := ⟨List.mem_of_getElem? (i := 1557) (by decide +kernel), List.mem_of_getElem? (i := 78) (by decide +kernel)⟩
set_option maxRecDepth 100000 in
theorem o_Rm_name : c_mok D_Rm_name := ⟨k_Rm_name, List.mem_of_getElem? (i := 1638) rfl, by decide, rfl, Or.inl ⟨rfl, rfl⟩, by decide, by decide, z_Rm, by decide⟩
theorem y_Rm_name : Cond.instanceMethod ⟨R_Rm, "name", "(I)V"⟩ ∈ lw_tbl ∧ Cond.selects R_Rm ⟨R_Rm, "name", "(I)V"⟩ ⟨R_Rm, "name", "(I)V"⟩ ∈ lw_tbl := ⟨List.mem_of_getElem? (i := 1637) (by decide +kernel), List.mem_of_getElem? (i := 98) (by decide +kernel)⟩
set_option maxRecDepth 100000 in
theorem o_Rm_lambda : c_mok D_Rm_lambda := ⟨k_Rm_lambda, List.mem_of_getElem? (i := 1562) rfl, by decide, rfl, Or.inl ⟨rfl, rfl⟩, by decide, by decide, z_Rm, by decide⟩
theorem y_Rm_lambda : Cond.instanceMethod ⟨R_Rm, "lambda", "(I)V"⟩ ∈ lw_tbl ∧ Cond.selects R_Rm ⟨R_Rm, "lambda", "(I)V"⟩ ⟨R_Rm, "lambda", "(I)V"⟩ ∈ lw_tbl := ⟨List.mem_of_getElem? (i := 1561) (by decide +kernel), List.mem_of_getElem? (i := 79) (by decide +kernel)⟩
set_option maxRecDepth 100000 in
theorem o_Rm_objectBehind : c_mok D_Rm_objectBehind := ⟨k_Rm_objectBehind, List.mem_of_getElem? (i := 1574) rfl, by decide, rfl, Or.inl ⟨rfl, rfl⟩, by decide, by decide, z_Rm, by decide⟩
theorem y_Rm_objectBehind : Cond.instanceMethod ⟨R_Rm, "objectBehind", "(I)V"⟩ ∈ lw_tbl ∧ Cond.selects R_Rm ⟨R_Rm, "objectBehind", "(I)V"⟩ ⟨R_Rm, "objectBehind", "(I)V"⟩ ∈ lw_tbl := ⟨List.mem_of_getElem? (i := 1573) (by decide +kernel), List.mem_of_getElem? (i := 82) (by decide +kernel)⟩
set_option maxRecDepth 100000 in
theorem o_Rm_oneBehind : c_mok D_Rm_oneBehind := ⟨k_Rm_oneBehind, List.mem_of_getElem? (i := 1578) rfl, by decide, rfl, Or.inl ⟨rfl, rfl⟩, by decide, by decide, z_Rm, by decide⟩
theorem y_Rm_oneBehind : Cond.instanceMethod ⟨R_Rm, "oneBehind", "(I)V"⟩ ∈ lw_tbl ∧ Cond.selects R_Rm ⟨R_Rm, "oneBehind", "(I)V"⟩ ⟨R_Rm, "oneBehind", "(I)V"⟩ ∈ lw_tbl := ⟨List.mem_of_getElem? (i := 1577) (by decide +kernel), List.mem_of_getElem? (i := 83) (by decide +kernel)⟩
set_option maxRecDepth 100000 in
theorem o_Rm_declare : c_mok D_Rm_declare := ⟨k_Rm_declare, List.mem_of_getElem? (i := 1410) rfl, by decide, rfl, Or.inr (Or.inl ⟨rfl, rfl⟩), by decide, by decide, z_Rm, by decide⟩
theorem y_Rm_declare : Cond.instanceMethod ⟨R_Rm, "declare", "()I"⟩ ∈ lw_tbl ∧ Cond.selects R_Rm ⟨R_Rm, "declare", "()I"⟩ ⟨R_Rm, "declare", "()I"⟩ ∈ lw_tbl := ⟨List.mem_of_getElem? (i := 1408) (by decide +kernel), List.mem_of_getElem? (i := 1409) (by decide +kernel)⟩
set_option maxRecDepth 100000 in
theorem o_Rm_declaration : c_mok D_Rm_declaration := ⟨k_Rm_declaration, List.mem_of_getElem? (i := 1436) rfl, by decide, rfl, Or.inl ⟨rfl, rfl⟩, by decide, by decide, z_Rm, by decide⟩
theorem y_Rm_declaration : Cond.instanceMethod ⟨R_Rm, "declaration", "()V"⟩ ∈ lw_tbl ∧ Cond.selects R_Rm ⟨R_Rm, "declaration", "()V"⟩ ⟨R_Rm, "declaration", "()V"⟩ ∈ lw_tbl := ⟨List.mem_of_getElem? (i := 1435) (by decide +kernel), List.mem_of_getElem? (i := 48) (by decide +kernel)⟩
set_option maxRecDepth 100000 in
theorem o_Rm_say : c_mok D_Rm_say := ⟨k_Rm_say, List.mem_of_getElem? (i := 1670) rfl, by decide, rfl, Or.inl ⟨rfl, rfl⟩, by decide, by decide, z_Rm, by decide⟩
theorem y_Rm_say : Cond.instanceMethod ⟨R_Rm, "say", "(I)V"⟩ ∈ lw_tbl ∧ Cond.selects R_Rm ⟨R_Rm, "say", "(I)V"⟩ ⟨R_Rm, "say", "(I)V"⟩ ∈ lw_tbl := ⟨List.mem_of_getElem? (i := 1669) (by decide +kernel), List.mem_of_getElem? (i := 105) (by decide +kernel)⟩
set_option maxRecDepth 100000 in
theorem o_Rm_signOf : c_mok D_Rm_signOf := ⟨k_Rm_signOf, List.mem_of_getElem? (i := 1685) rfl, by decide, rfl, Or.inr (Or.inl ⟨rfl, rfl⟩), by decide, by decide, z_Rm, by decide⟩
theorem y_Rm_signOf : Cond.static ⟨R_Rm, "signOf", "(I)I"⟩ ∈ lw_tbl := List.mem_of_getElem? (i := 1684) (by decide +kernel)
set_option maxRecDepth 100000 in
theorem o_Rm_sayPart : c_mok D_Rm_sayPart := ⟨k_Rm_sayPart, List.mem_of_getElem? (i := 1682) rfl, by decide, rfl, Or.inl ⟨rfl, rfl⟩, by decide, by decide, z_Rm, by decide⟩
theorem y_Rm_sayPart : Cond.instanceMethod ⟨R_Rm, "sayPart", "(J)V"⟩ ∈ lw_tbl ∧ Cond.selects R_Rm ⟨R_Rm, "sayPart", "(J)V"⟩ ⟨R_Rm, "sayPart", "(J)V"⟩ ∈ lw_tbl := ⟨List.mem_of_getElem? (i := 1681) (by decide +kernel), List.mem_of_getElem? (i := 108) (by decide +kernel)⟩
set_option maxRecDepth 100000 in
theorem o_Rm_sayVar : c_mok D_Rm_sayVar := ⟨k_Rm_sayVar, List.mem_of_getElem? (i := 1674) rfl, by decide, rfl, Or.inl ⟨rfl, rfl⟩, by decide, by decide, z_Rm, by decide⟩
theorem y_Rm_sayVar : Cond.instanceMethod ⟨R_Rm, "sayVar", "(I)V"⟩ ∈ lw_tbl ∧ Cond.selects R_Rm ⟨R_Rm, "sayVar", "(I)V"⟩ ⟨R_Rm, "sayVar", "(I)V"⟩ ∈ lw_tbl := ⟨List.mem_of_getElem? (i := 1673) (by decide +kernel), List.mem_of_getElem? (i := 106) (by decide +kernel)⟩
set_option maxRecDepth 100000 in
theorem o_Rm_countXs : c_mok D_Rm_countXs := ⟨k_Rm_countXs, List.mem_of_getElem? (i := 1654) rfl, by decide, rfl, Or.inl ⟨rfl, rfl⟩, by decide, by decide, z_Rm, by decide⟩
theorem y_Rm_countXs : Cond.instanceMethod ⟨R_Rm, "countXs", "()V"⟩ ∈ lw_tbl ∧ Cond.selects R_Rm ⟨R_Rm, "countXs", "()V"⟩ ⟨R_Rm, "countXs", "()V"⟩ ∈ lw_tbl := ⟨List.mem_of_getElem? (i := 1653) (by decide +kernel), List.mem_of_getElem? (i := 101) (by decide +kernel)⟩
set_option maxRecDepth 100000 in
theorem o_Rm_isXs : c_mok D_Rm_isXs := ⟨k_Rm_isXs, List.mem_of_getElem? (i := 1658) rfl, by decide, rfl, Or.inr (Or.inr ⟨rfl, rfl⟩), by decide, by decide, z_Rm, by decide⟩
theorem y_Rm_isXs : Cond.instanceMethod ⟨R_Rm, "isXs", "(I)Z"⟩ ∈ lw_tbl ∧ Cond.selects R_Rm ⟨R_Rm, "isXs", "(I)Z"⟩ ⟨R_Rm, "isXs", "(I)Z"⟩ ∈ lw_tbl := ⟨List.mem_of_getElem? (i := 1657) (by decide +kernel), List.mem_of_getElem? (i := 102) (by decide +kernel)⟩
set_option maxRecDepth 100000 in
theorem o_Rm_takeLetters : c_mok D_Rm_takeLetters := ⟨k_Rm_takeLetters, List.mem_of_getElem? (i := 1662) rfl, by decide, rfl, Or.inl ⟨rfl, rfl⟩, by decide, by decide, z_Rm, by decide⟩
theorem y_Rm_takeLetters : Cond.instanceMethod ⟨R_Rm, "takeLetters", "(J)V"⟩ ∈ lw_tbl ∧ Cond.selects R_Rm ⟨R_Rm, "takeLetters", "(J)V"⟩ ⟨R_Rm, "takeLetters", "(J)V"⟩ ∈ lw_tbl := ⟨List.mem_of_getElem? (i := 1661) (by decide +kernel), List.mem_of_getElem? (i := 103) (by decide +kernel)⟩
set_option maxRecDepth 100000 in
theorem o_Rm_ended : c_mok D_Rm_ended := ⟨k_Rm_ended, List.mem_of_getElem? (i := 1678) rfl, by decide, rfl, Or.inr (Or.inl ⟨rfl, rfl⟩), by decide, by decide, z_Rm, by decide⟩
theorem y_Rm_ended : Cond.instanceMethod ⟨R_Rm, "ended", "(I)I"⟩ ∈ lw_tbl ∧ Cond.selects R_Rm ⟨R_Rm, "ended", "(I)I"⟩ ⟨R_Rm, "ended", "(I)I"⟩ ∈ lw_tbl := ⟨List.mem_of_getElem? (i := 1677) (by decide +kernel), List.mem_of_getElem? (i := 107) (by decide +kernel)⟩
set_option maxRecDepth 100000 in
theorem o_Rm_tellFamily : c_mok D_Rm_tellFamily := ⟨k_Rm_tellFamily, List.mem_of_getElem? (i := 1666) rfl, by decide, rfl, Or.inr (Or.inl ⟨rfl, rfl⟩), by decide, by decide, z_Rm, by decide⟩
theorem y_Rm_tellFamily : Cond.instanceMethod ⟨R_Rm, "tellFamily", "(III)I"⟩ ∈ lw_tbl ∧ Cond.selects R_Rm ⟨R_Rm, "tellFamily", "(III)I"⟩ ⟨R_Rm, "tellFamily", "(III)I"⟩ ∈ lw_tbl := ⟨List.mem_of_getElem? (i := 1665) (by decide +kernel), List.mem_of_getElem? (i := 104) (by decide +kernel)⟩
set_option maxRecDepth 100000 in
theorem o_Rm_tellBehind : c_mok D_Rm_tellBehind := ⟨k_Rm_tellBehind, List.mem_of_getElem? (i := 1689) rfl, by decide, rfl, Or.inr (Or.inl ⟨rfl, rfl⟩), by decide, by decide, z_Rm, by decide⟩
theorem y_Rm_tellBehind : Cond.instanceMethod ⟨R_Rm, "tellBehind", "(IIII)I"⟩ ∈ lw_tbl ∧ Cond.selects R_Rm ⟨R_Rm, "tellBehind", "(IIII)I"⟩ ⟨R_Rm, "tellBehind", "(IIII)I"⟩ ∈ lw_tbl := ⟨List.mem_of_getElem? (i := 1688) (by decide +kernel), List.mem_of_getElem? (i := 109) (by decide +kernel)⟩
set_option maxRecDepth 100000 in
theorem o_Rm_tellObject : c_mok D_Rm_tellObject := ⟨k_Rm_tellObject, List.mem_of_getElem? (i := 1693) rfl, by decide, rfl, Or.inr (Or.inl ⟨rfl, rfl⟩), by decide, by decide, z_Rm, by decide⟩
theorem y_Rm_tellObject : Cond.instanceMethod ⟨R_Rm, "tellObject", "(IIIIIZ)I"⟩ ∈ lw_tbl ∧ Cond.selects R_Rm ⟨R_Rm, "tellObject", "(IIIIIZ)I"⟩ ⟨R_Rm, "tellObject", "(IIIIIZ)I"⟩ ∈ lw_tbl := ⟨List.mem_of_getElem? (i := 1692) (by decide +kernel), List.mem_of_getElem? (i := 110) (by decide +kernel)⟩
set_option maxRecDepth 100000 in
theorem o_Rm_tellLambda : c_mok D_Rm_tellLambda := ⟨k_Rm_tellLambda, List.mem_of_getElem? (i := 1697) rfl, by decide, rfl, Or.inr (Or.inl ⟨rfl, rfl⟩), by decide, by decide, z_Rm, by decide⟩
theorem y_Rm_tellLambda : Cond.instanceMethod ⟨R_Rm, "tellLambda", "(IIIZ)I"⟩ ∈ lw_tbl ∧ Cond.selects R_Rm ⟨R_Rm, "tellLambda", "(IIIZ)I"⟩ ⟨R_Rm, "tellLambda", "(IIIZ)I"⟩ ∈ lw_tbl := ⟨List.mem_of_getElem? (i := 1696) (by decide +kernel), List.mem_of_getElem? (i := 111) (by decide +kernel)⟩
set_option maxRecDepth 100000 in
theorem o_Rm_tellHead : c_mok D_Rm_tellHead := ⟨k_Rm_tellHead, List.mem_of_getElem? (i := 1701) rfl, by decide, rfl, Or.inr (Or.inl ⟨rfl, rfl⟩), by decide, by decide, z_Rm, by decide⟩
theorem y_Rm_tellHead : Cond.instanceMethod ⟨R_Rm, "tellHead", "(IIIZ)I"⟩ ∈ lw_tbl ∧ Cond.selects R_Rm ⟨R_Rm, "tellHead", "(IIIZ)I"⟩ ⟨R_Rm, "tellHead", "(IIIZ)I"⟩ ∈ lw_tbl := ⟨List.mem_of_getElem? (i := 1700) (by decide +kernel), List.mem_of_getElem? (i := 112) (by decide +kernel)⟩
set_option maxRecDepth 100000 in
theorem o_Rm_askOne : c_mok D_Rm_askOne := ⟨k_Rm_askOne, List.mem_of_getElem? (i := 1650) rfl, by decide, rfl, Or.inr (Or.inl ⟨rfl, rfl⟩), by decide, by decide, z_Rm, by decide⟩
theorem y_Rm_askOne : Cond.instanceMethod ⟨R_Rm, "askOne", "()I"⟩ ∈ lw_tbl ∧ Cond.selects R_Rm ⟨R_Rm, "askOne", "()I"⟩ ⟨R_Rm, "askOne", "()I"⟩ ∈ lw_tbl := ⟨List.mem_of_getElem? (i := 1649) (by decide +kernel), List.mem_of_getElem? (i := 100) (by decide +kernel)⟩
set_option maxRecDepth 100000 in
theorem o_Rm_tell : c_mok D_Rm_tell := ⟨k_Rm_tell, List.mem_of_getElem? (i := 1646) rfl, by decide, rfl, Or.inr (Or.inl ⟨rfl, rfl⟩), by decide, by decide, z_Rm, by decide⟩
theorem y_Rm_tell : Cond.instanceMethod ⟨R_Rm, "tell", "(Z)I"⟩ ∈ lw_tbl ∧ Cond.selects R_Rm ⟨R_Rm, "tell", "(Z)I"⟩ ⟨R_Rm, "tell", "(Z)I"⟩ ∈ lw_tbl := ⟨List.mem_of_getElem? (i := 1645) (by decide +kernel), List.mem_of_getElem? (i := 99) (by decide +kernel)⟩
set_option maxRecDepth 100000 in
theorem o_Rm_canon : c_mok D_Rm_canon := ⟨k_Rm_canon, List.mem_of_getElem? (i := 1642) rfl, by decide, rfl, Or.inr (Or.inl ⟨rfl, rfl⟩), by decide, by decide, z_Rm, by decide⟩
theorem y_Rm_canon : Cond.instanceMethod ⟨R_Rm, "canon", "()I"⟩ ∈ lw_tbl ∧ Cond.selects R_Rm ⟨R_Rm, "canon", "()I"⟩ ⟨R_Rm, "canon", "()I"⟩ ∈ lw_tbl := ⟨List.mem_of_getElem? (i := 1640) (by decide +kernel), List.mem_of_getElem? (i := 1641) (by decide +kernel)⟩
set_option maxRecDepth 100000 in
theorem o_Rm_type : c_mok D_Rm_type := ⟨k_Rm_type, List.mem_of_getElem? (i := 1705) rfl, by decide, rfl, Or.inr (Or.inl ⟨rfl, rfl⟩), by decide, by decide, z_Rm, by decide⟩
theorem y_Rm_type : Cond.instanceMethod ⟨R_Rm, "type", "()I"⟩ ∈ lw_tbl ∧ Cond.selects R_Rm ⟨R_Rm, "type", "()I"⟩ ⟨R_Rm, "type", "()I"⟩ ∈ lw_tbl := ⟨List.mem_of_getElem? (i := 1703) (by decide +kernel), List.mem_of_getElem? (i := 1704) (by decide +kernel)⟩
set_option maxRecDepth 100000 in
theorem o_Rm_equal : c_mok D_Rm_equal := ⟨k_Rm_equal, List.mem_of_getElem? (i := 1709) rfl, by decide, rfl, Or.inr (Or.inl ⟨rfl, rfl⟩), by decide, by decide, z_Rm, by decide⟩
theorem y_Rm_equal : Cond.instanceMethod ⟨R_Rm, "equal", "()I"⟩ ∈ lw_tbl ∧ Cond.selects R_Rm ⟨R_Rm, "equal", "()I"⟩ ⟨R_Rm, "equal", "()I"⟩ ∈ lw_tbl := ⟨List.mem_of_getElem? (i := 1707) (by decide +kernel), List.mem_of_getElem? (i := 1708) (by decide +kernel)⟩
set_option maxRecDepth 100000 in
theorem o_Rm_named : c_mok D_Rm_named := ⟨k_Rm_named, List.mem_of_getElem? (i := 1713) rfl, by decide, rfl, Or.inr (Or.inl ⟨rfl, rfl⟩), by decide, by decide, z_Rm, by decide⟩
theorem y_Rm_named : Cond.instanceMethod ⟨R_Rm, "named", "()I"⟩ ∈ lw_tbl ∧ Cond.selects R_Rm ⟨R_Rm, "named", "()I"⟩ ⟨R_Rm, "named", "()I"⟩ ∈ lw_tbl := ⟨List.mem_of_getElem? (i := 1711) (by decide +kernel), List.mem_of_getElem? (i := 1712) (by decide +kernel)⟩
set_option maxRecDepth 100000 in
theorem o_Rm_constant : c_mok D_Rm_constant := ⟨k_Rm_constant, List.mem_of_getElem? (i := 1717) rfl, by decide, rfl, Or.inr (Or.inl ⟨rfl, rfl⟩), by decide, by decide, z_Rm, by decide⟩
theorem y_Rm_constant : Cond.instanceMethod ⟨R_Rm, "constant", "(II)I"⟩ ∈ lw_tbl ∧ Cond.selects R_Rm ⟨R_Rm, "constant", "(II)I"⟩ ⟨R_Rm, "constant", "(II)I"⟩ ∈ lw_tbl := ⟨List.mem_of_getElem? (i := 1715) (by decide +kernel), List.mem_of_getElem? (i := 1716) (by decide +kernel)⟩
set_option maxRecDepth 100000 in
theorem o_Rm_size : c_mok D_Rm_size := ⟨k_Rm_size, List.mem_of_getElem? (i := 1721) rfl, by decide, rfl, Or.inr (Or.inl ⟨rfl, rfl⟩), by decide, by decide, z_Rm, by decide⟩
theorem y_Rm_size : Cond.instanceMethod ⟨R_Rm, "size", "()I"⟩ ∈ lw_tbl ∧ Cond.selects R_Rm ⟨R_Rm, "size", "()I"⟩ ⟨R_Rm, "size", "()I"⟩ ∈ lw_tbl := ⟨List.mem_of_getElem? (i := 1719) (by decide +kernel), List.mem_of_getElem? (i := 1720) (by decide +kernel)⟩
set_option maxRecDepth 100000 in
theorem o_Rm_out : c_mok D_Rm_out := ⟨k_Rm_out, List.mem_of_getElem? (i := 1725) rfl, by decide, rfl, Or.inr (Or.inl ⟨rfl, rfl⟩), by decide, by decide, z_Rm, by decide⟩
theorem y_Rm_out : Cond.instanceMethod ⟨R_Rm, "out", "(I)I"⟩ ∈ lw_tbl ∧ Cond.selects R_Rm ⟨R_Rm, "out", "(I)I"⟩ ⟨R_Rm, "out", "(I)I"⟩ ∈ lw_tbl := ⟨List.mem_of_getElem? (i := 1723) (by decide +kernel), List.mem_of_getElem? (i := 1724) (by decide +kernel)⟩
set_option maxRecDepth 100000 in
theorem o_Rm_forget : c_mok D_Rm_forget := ⟨k_Rm_forget, List.mem_of_getElem? (i := 1729) rfl, by decide, rfl, Or.inr (Or.inl ⟨rfl, rfl⟩), by decide, by decide, z_Rm, by decide⟩
theorem y_Rm_forget : Cond.instanceMethod ⟨R_Rm, "forget", "(I)I"⟩ ∈ lw_tbl ∧ Cond.selects R_Rm ⟨R_Rm, "forget", "(I)I"⟩ ⟨R_Rm, "forget", "(I)I"⟩ ∈ lw_tbl := ⟨List.mem_of_getElem? (i := 1727) (by decide +kernel), List.mem_of_getElem? (i := 1728) (by decide +kernel)⟩
set_option maxRecDepth 100000 in
theorem o_Rm_count : c_mok D_Rm_count := ⟨k_Rm_count, List.mem_of_getElem? (i := 1733) rfl, by decide, rfl, Or.inr (Or.inl ⟨rfl, rfl⟩), by decide, by decide, z_Rm, by decide⟩
theorem y_Rm_count : Cond.instanceMethod ⟨R_Rm, "count", "(I)I"⟩ ∈ lw_tbl ∧ Cond.selects R_Rm ⟨R_Rm, "count", "(I)I"⟩ ⟨R_Rm, "count", "(I)I"⟩ ∈ lw_tbl := ⟨List.mem_of_getElem? (i := 1731) (by decide +kernel), List.mem_of_getElem? (i := 1732) (by decide +kernel)⟩
set_option maxRecDepth 100000 in
theorem o_Ce_mark : c_mok D_Ce_mark := ⟨k_Ce_mark, List.mem_of_getElem? (i := 700) rfl, by decide, rfl, Or.inr (Or.inl ⟨rfl, rfl⟩), by decide, by decide, z_Ce, by decide⟩
theorem y_Ce_mark : Cond.instanceMethod ⟨R_Ce, "mark", "()I"⟩ ∈ lw_tbl ∧ Cond.selects R_Ce ⟨R_Ce, "mark", "()I"⟩ ⟨R_Ce, "mark", "()I"⟩ ∈ lw_tbl := ⟨List.mem_of_getElem? (i := 698) (by decide +kernel), List.mem_of_getElem? (i := 699) (by decide +kernel)⟩
set_option maxRecDepth 100000 in
theorem o_Ce_release : c_mok D_Ce_release := ⟨k_Ce_release, List.mem_of_getElem? (i := 512) rfl, by decide, rfl, Or.inl ⟨rfl, rfl⟩, by decide, by decide, z_Ce, by decide⟩
theorem y_Ce_release : Cond.instanceMethod ⟨R_Ce, "release", "(I)V"⟩ ∈ lw_tbl ∧ Cond.selects R_Ce ⟨R_Ce, "release", "(I)V"⟩ ⟨R_Ce, "release", "(I)V"⟩ ∈ lw_tbl := ⟨List.mem_of_getElem? (i := 510) (by decide +kernel), List.mem_of_getElem? (i := 511) (by decide +kernel)⟩
set_option maxRecDepth 100000 in
theorem o_Ce_make : c_mok D_Ce_make := ⟨k_Ce_make, List.mem_of_getElem? (i := 746) rfl, by decide, rfl, Or.inr (Or.inl ⟨rfl, rfl⟩), by decide, by decide, z_Ce, by decide⟩
theorem y_Ce_make : Cond.instanceMethod ⟨R_Ce, "make", "(II)I"⟩ ∈ lw_tbl ∧ Cond.selects R_Ce ⟨R_Ce, "make", "(II)I"⟩ ⟨R_Ce, "make", "(II)I"⟩ ∈ lw_tbl := ⟨List.mem_of_getElem? (i := 744) (by decide +kernel), List.mem_of_getElem? (i := 745) (by decide +kernel)⟩
set_option maxRecDepth 100000 in
theorem o_Ce_term : c_mok D_Ce_term := ⟨k_Ce_term, List.mem_of_getElem? (i := 817) rfl, by decide, rfl, Or.inr (Or.inl ⟨rfl, rfl⟩), by decide, by decide, z_Ce, by decide⟩
theorem y_Ce_term : Cond.instanceMethod ⟨R_Ce, "term", "(I)I"⟩ ∈ lw_tbl ∧ Cond.selects R_Ce ⟨R_Ce, "term", "(I)I"⟩ ⟨R_Ce, "term", "(I)I"⟩ ∈ lw_tbl := ⟨List.mem_of_getElem? (i := 815) (by decide +kernel), List.mem_of_getElem? (i := 816) (by decide +kernel)⟩
set_option maxRecDepth 100000 in
theorem o_Ce_scope : c_mok D_Ce_scope := ⟨k_Ce_scope, List.mem_of_getElem? (i := 821) rfl, by decide, rfl, Or.inr (Or.inl ⟨rfl, rfl⟩), by decide, by decide, z_Ce, by decide⟩
theorem y_Ce_scope : Cond.instanceMethod ⟨R_Ce, "scope", "(I)I"⟩ ∈ lw_tbl ∧ Cond.selects R_Ce ⟨R_Ce, "scope", "(I)I"⟩ ⟨R_Ce, "scope", "(I)I"⟩ ∈ lw_tbl := ⟨List.mem_of_getElem? (i := 819) (by decide +kernel), List.mem_of_getElem? (i := 820) (by decide +kernel)⟩
set_option maxRecDepth 100000 in
theorem o_Ce_next : c_mok D_Ce_next := ⟨k_Ce_next, List.mem_of_getElem? (i := 813) rfl, by decide, rfl, Or.inr (Or.inl ⟨rfl, rfl⟩), by decide, by decide, z_Ce, by decide⟩
theorem y_Ce_next : Cond.instanceMethod ⟨R_Ce, "next", "(I)I"⟩ ∈ lw_tbl ∧ Cond.selects R_Ce ⟨R_Ce, "next", "(I)I"⟩ ⟨R_Ce, "next", "(I)I"⟩ ∈ lw_tbl := ⟨List.mem_of_getElem? (i := 811) (by decide +kernel), List.mem_of_getElem? (i := 812) (by decide +kernel)⟩
set_option maxRecDepth 100000 in
theorem o_Ce_binder : c_mok D_Ce_binder := ⟨k_Ce_binder, List.mem_of_getElem? (i := 849) rfl, by decide, rfl, Or.inr (Or.inl ⟨rfl, rfl⟩), by decide, by decide, z_Ce, by decide⟩
theorem y_Ce_binder : Cond.instanceMethod ⟨R_Ce, "binder", "(I)I"⟩ ∈ lw_tbl ∧ Cond.selects R_Ce ⟨R_Ce, "binder", "(I)I"⟩ ⟨R_Ce, "binder", "(I)I"⟩ ∈ lw_tbl := ⟨List.mem_of_getElem? (i := 847) (by decide +kernel), List.mem_of_getElem? (i := 848) (by decide +kernel)⟩
set_option maxRecDepth 100000 in
theorem o_Ce_link : c_mok D_Ce_link := ⟨k_Ce_link, List.mem_of_getElem? (i := 751) rfl, by decide, rfl, Or.inl ⟨rfl, rfl⟩, by decide, by decide, z_Ce, by decide⟩
theorem y_Ce_link : Cond.instanceMethod ⟨R_Ce, "link", "(II)V"⟩ ∈ lw_tbl ∧ Cond.selects R_Ce ⟨R_Ce, "link", "(II)V"⟩ ⟨R_Ce, "link", "(II)V"⟩ ∈ lw_tbl := ⟨List.mem_of_getElem? (i := 749) (by decide +kernel), List.mem_of_getElem? (i := 750) (by decide +kernel)⟩
set_option maxRecDepth 100000 in
theorem o_Ce_bind : c_mok D_Ce_bind := ⟨k_Ce_bind, List.mem_of_getElem? (i := 759) rfl, by decide, rfl, Or.inr (Or.inl ⟨rfl, rfl⟩), by decide, by decide, z_Ce, by decide⟩
theorem y_Ce_bind : Cond.instanceMethod ⟨R_Ce, "bind", "(III)I"⟩ ∈ lw_tbl ∧ Cond.selects R_Ce ⟨R_Ce, "bind", "(III)I"⟩ ⟨R_Ce, "bind", "(III)I"⟩ ∈ lw_tbl := ⟨List.mem_of_getElem? (i := 757) (by decide +kernel), List.mem_of_getElem? (i := 758) (by decide +kernel)⟩
set_option maxRecDepth 100000 in
theorem o_Ce_newVariable : c_mok D_Ce_newVariable := ⟨k_Ce_newVariable, List.mem_of_getElem? (i := 742) rfl, by decide, rfl, Or.inr (Or.inl ⟨rfl, rfl⟩), by decide, by decide, z_Ce, by decide⟩
theorem y_Ce_newVariable : Cond.instanceMethod ⟨R_Ce, "newVariable", "(III)I"⟩ ∈ lw_tbl ∧ Cond.selects R_Ce ⟨R_Ce, "newVariable", "(III)I"⟩ ⟨R_Ce, "newVariable", "(III)I"⟩ ∈ lw_tbl := ⟨List.mem_of_getElem? (i := 740) (by decide +kernel), List.mem_of_getElem? (i := 741) (by decide +kernel)⟩
set_option maxRecDepth 100000 in
theorem o_Ce_numberOf : c_mok D_Ce_numberOf := ⟨k_Ce_numberOf, List.mem_of_getElem? (i := 1076) rfl, by decide, rfl, Or.inr (Or.inl ⟨rfl, rfl⟩), by decide, by decide, z_Ce, by decide⟩
theorem y_Ce_numberOf : Cond.instanceMethod ⟨R_Ce, "numberOf", "(I)I"⟩ ∈ lw_tbl ∧ Cond.selects R_Ce ⟨R_Ce, "numberOf", "(I)I"⟩ ⟨R_Ce, "numberOf", "(I)I"⟩ ∈ lw_tbl := ⟨List.mem_of_getElem? (i := 1074) (by decide +kernel), List.mem_of_getElem? (i := 1075) (by decide +kernel)⟩
set_option maxRecDepth 100000 in
theorem o_Ce_enter : c_mok D_Ce_enter := ⟨k_Ce_enter, List.mem_of_getElem? (i := 755) rfl, by decide, rfl, Or.inr (Or.inl ⟨rfl, rfl⟩), by decide, by decide, z_Ce, by decide⟩
theorem y_Ce_enter : Cond.instanceMethod ⟨R_Ce, "enter", "(III)I"⟩ ∈ lw_tbl ∧ Cond.selects R_Ce ⟨R_Ce, "enter", "(III)I"⟩ ⟨R_Ce, "enter", "(III)I"⟩ ∈ lw_tbl := ⟨List.mem_of_getElem? (i := 753) (by decide +kernel), List.mem_of_getElem? (i := 754) (by decide +kernel)⟩
set_option maxRecDepth 100000 in
theorem o_Ce_append : c_mok D_Ce_append := ⟨k_Ce_append, List.mem_of_getElem? (i := 911) rfl, by decide, rfl, Or.inr (Or.inl ⟨rfl, rfl⟩), by decide, by decide, z_Ce, by decide⟩
theorem y_Ce_append : Cond.instanceMethod ⟨R_Ce, "append", "(II)I"⟩ ∈ lw_tbl ∧ Cond.selects R_Ce ⟨R_Ce, "append", "(II)I"⟩ ⟨R_Ce, "append", "(II)I"⟩ ∈ lw_tbl := ⟨List.mem_of_getElem? (i := 909) (by decide +kernel), List.mem_of_getElem? (i := 910) (by decide +kernel)⟩
set_option maxRecDepth 100000 in
theorem o_Ce_outward : c_mok D_Ce_outward := ⟨k_Ce_outward, List.mem_of_getElem? (i := 809) rfl, by decide, rfl, Or.inr (Or.inl ⟨rfl, rfl⟩), by decide, by decide, z_Ce, by decide⟩
theorem y_Ce_outward : Cond.instanceMethod ⟨R_Ce, "outward", "(II)I"⟩ ∈ lw_tbl ∧ Cond.selects R_Ce ⟨R_Ce, "outward", "(II)I"⟩ ⟨R_Ce, "outward", "(II)I"⟩ ∈ lw_tbl := ⟨List.mem_of_getElem? (i := 807) (by decide +kernel), List.mem_of_getElem? (i := 808) (by decide +kernel)⟩
set_option maxRecDepth 100000 in
theorem o_Ck_sort : c_mok D_Ck_sort := ⟨k_Ck_sort, List.mem_of_getElem? (i := 961) rfl, by decide, rfl, Or.inr (Or.inl ⟨rfl, rfl⟩), by decide, by decide, z_Ck, by decide⟩
theorem y_Ck_sort : Cond.instanceMethod ⟨R_Ck, "sort", "()I"⟩ ∈ lw_tbl ∧ Cond.selects R_Ck ⟨R_Ck, "sort", "()I"⟩ ⟨R_Ck, "sort", "()I"⟩ ∈ lw_tbl := ⟨List.mem_of_getElem? (i := 959) (by decide +kernel), List.mem_of_getElem? (i := 960) (by decide +kernel)⟩
set_option maxRecDepth 100000 in
theorem o_Ck_faultOfDeclaration : c_mok D_Ck_faultOfDeclaration := ⟨k_Ck_faultOfDeclaration, List.mem_of_getElem? (i := 692) rfl, by decide, rfl, Or.inr (Or.inl ⟨rfl, rfl⟩), by decide, by decide, z_Ck, by decide⟩
theorem y_Ck_faultOfDeclaration : Cond.instanceMethod ⟨R_Ck, "faultOfDeclaration", "(II)I"⟩ ∈ lw_tbl ∧ Cond.selects R_Ck ⟨R_Ck, "faultOfDeclaration", "(II)I"⟩ ⟨R_Ck, "faultOfDeclaration", "(II)I"⟩ ∈ lw_tbl := ⟨List.mem_of_getElem? (i := 690) (by decide +kernel), List.mem_of_getElem? (i := 691) (by decide +kernel)⟩
set_option maxRecDepth 100000 in
theorem o_Ck_faultOfObject : c_mok D_Ck_faultOfObject := ⟨k_Ck_faultOfObject, List.mem_of_getElem? (i := 993) rfl, by decide, rfl, Or.inr (Or.inl ⟨rfl, rfl⟩), by decide, by decide, z_Ck, by decide⟩
theorem y_Ck_faultOfObject : Cond.instanceMethod ⟨R_Ck, "faultOfObject", "(I)I"⟩ ∈ lw_tbl ∧ Cond.selects R_Ck ⟨R_Ck, "faultOfObject", "(I)I"⟩ ⟨R_Ck, "faultOfObject", "(I)I"⟩ ∈ lw_tbl := ⟨List.mem_of_getElem? (i := 991) (by decide +kernel), List.mem_of_getElem? (i := 992) (by decide +kernel)⟩
set_option maxRecDepth 100000 in
theorem o_Ck_wrong : c_mok D_Ck_wrong := ⟨k_Ck_wrong, List.mem_of_getElem? (i := 729) rfl, by decide, rfl, Or.inl ⟨rfl, rfl⟩, by decide, by decide, z_Ck, by decide⟩
theorem y_Ck_wrong : Cond.instanceMethod ⟨R_Ck, "wrong", "(II)V"⟩ ∈ lw_tbl ∧ Cond.selects R_Ck ⟨R_Ck, "wrong", "(II)V"⟩ ⟨R_Ck, "wrong", "(II)V"⟩ ∈ lw_tbl := ⟨List.mem_of_getElem? (i := 728) (by decide +kernel), List.mem_of_getElem? (i := 20) (by decide +kernel)⟩
set_option maxRecDepth 100000 in
theorem o_Ck_step : c_mok D_Ck_step := ⟨k_Ck_step, List.mem_of_getElem? (i := 712) rfl, by decide, rfl, Or.inr (Or.inr ⟨rfl, rfl⟩), by decide, by decide, z_Ck, by decide⟩
theorem y_Ck_step : Cond.instanceMethod ⟨R_Ck, "step", "(I)Z"⟩ ∈ lw_tbl ∧ Cond.selects R_Ck ⟨R_Ck, "step", "(I)Z"⟩ ⟨R_Ck, "step", "(I)Z"⟩ ∈ lw_tbl := ⟨List.mem_of_getElem? (i := 711) (by decide +kernel), List.mem_of_getElem? (i := 19) (by decide +kernel)⟩
set_option maxRecDepth 100000 in
theorem o_Ck_classifier : c_mok D_Ck_classifier := ⟨k_Ck_classifier, List.mem_of_getElem? (i := 696) rfl, by decide, rfl, Or.inr (Or.inr ⟨rfl, rfl⟩), by decide, by decide, z_Ck, by decide⟩
theorem y_Ck_classifier : Cond.instanceMethod ⟨R_Ck, "classifier", "(IIZ)Z"⟩ ∈ lw_tbl ∧ Cond.selects R_Ck ⟨R_Ck, "classifier", "(IIZ)Z"⟩ ⟨R_Ck, "classifier", "(IIZ)Z"⟩ ∈ lw_tbl := ⟨List.mem_of_getElem? (i := 695) (by decide +kernel), List.mem_of_getElem? (i := 18) (by decide +kernel)⟩
set_option maxRecDepth 100000 in
theorem o_Ck_under : c_mok D_Ck_under := ⟨k_Ck_under, List.mem_of_getElem? (i := 738) rfl, by decide, rfl, Or.inr (Or.inl ⟨rfl, rfl⟩), by decide, by decide, z_Ck, by decide⟩
theorem y_Ck_under : Cond.instanceMethod ⟨R_Ck, "under", "(II)I"⟩ ∈ lw_tbl ∧ Cond.selects R_Ck ⟨R_Ck, "under", "(II)I"⟩ ⟨R_Ck, "under", "(II)I"⟩ ∈ lw_tbl := ⟨List.mem_of_getElem? (i := 737) (by decide +kernel), List.mem_of_getElem? (i := 21) (by decide +kernel)⟩
set_option maxRecDepth 100000 in
theorem o_Ck_family : c_mok D_Ck_family := ⟨k_Ck_family, List.mem_of_getElem? (i := 767) rfl, by decide, rfl, Or.inl ⟨rfl, rfl⟩, by decide, by decide, z_Ck, by decide⟩
theorem y_Ck_family : Cond.instanceMethod ⟨R_Ck, "family", "(II)V"⟩ ∈ lw_tbl ∧ Cond.selects R_Ck ⟨R_Ck, "family", "(II)V"⟩ ⟨R_Ck, "family", "(II)V"⟩ ∈ lw_tbl := ⟨List.mem_of_getElem? (i := 766) (by decide +kernel), List.mem_of_getElem? (i := 22) (by decide +kernel)⟩
set_option maxRecDepth 100000 in
theorem o_Ck_isFamilyName : c_mok D_Ck_isFamilyName := ⟨k_Ck_isFamilyName, List.mem_of_getElem? (i := 781) rfl, by decide, rfl, Or.inr (Or.inr ⟨rfl, rfl⟩), by decide, by decide, z_Ck, by decide⟩
theorem y_Ck_isFamilyName : Cond.instanceMethod ⟨R_Ck, "isFamilyName", "(I)Z"⟩ ∈ lw_tbl ∧ Cond.selects R_Ck ⟨R_Ck, "isFamilyName", "(I)Z"⟩ ⟨R_Ck, "isFamilyName", "(I)Z"⟩ ∈ lw_tbl := ⟨List.mem_of_getElem? (i := 780) (by decide +kernel), List.mem_of_getElem? (i := 23) (by decide +kernel)⟩
set_option maxRecDepth 100000 in
theorem o_Ck_objectsOfFamily : c_mok D_Ck_objectsOfFamily := ⟨k_Ck_objectsOfFamily, List.mem_of_getElem? (i := 794) rfl, by decide, rfl, Or.inl ⟨rfl, rfl⟩, by decide, by decide, z_Ck, by decide⟩
theorem y_Ck_objectsOfFamily : Cond.instanceMethod ⟨R_Ck, "objectsOfFamily", "(III)V"⟩ ∈ lw_tbl ∧ Cond.selects R_Ck ⟨R_Ck, "objectsOfFamily", "(III)V"⟩ ⟨R_Ck, "objectsOfFamily", "(III)V"⟩ ∈ lw_tbl := ⟨List.mem_of_getElem? (i := 793) (by decide +kernel), List.mem_of_getElem? (i := 24) (by decide +kernel)⟩
set_option maxRecDepth 100000 in
theorem o_Ck_fitting : c_mok D_Ck_fitting := ⟨k_Ck_fitting, List.mem_of_getElem? (i := 831) rfl, by decide, rfl, Or.inl ⟨rfl, rfl⟩, by decide, by decide, z_Ck, by decide⟩
theorem y_Ck_fitting : Cond.instanceMethod ⟨R_Ck, "fitting", "(IIII)V"⟩ ∈ lw_tbl ∧ Cond.selects R_Ck ⟨R_Ck, "fitting", "(IIII)V"⟩ ⟨R_Ck, "fitting", "(IIII)V"⟩ ∈ lw_tbl := ⟨List.mem_of_getElem? (i := 830) (by decide +kernel), List.mem_of_getElem? (i := 25) (by decide +kernel)⟩
set_option maxRecDepth 100000 in
theorem o_Ck_object : c_mok D_Ck_object := ⟨k_Ck_object, List.mem_of_getElem? (i := 835) rfl, by decide, rfl, Or.inl ⟨rfl, rfl⟩, by decide, by decide, z_Ck, by decide⟩
theorem y_Ck_object : Cond.instanceMethod ⟨R_Ck, "object", "(II)V"⟩ ∈ lw_tbl ∧ Cond.selects R_Ck ⟨R_Ck, "object", "(II)V"⟩ ⟨R_Ck, "object", "(II)V"⟩ ∈ lw_tbl := ⟨List.mem_of_getElem? (i := 834) (by decide +kernel), List.mem_of_getElem? (i := 26) (by decide +kernel)⟩
set_option maxRecDepth 100000 in
theorem o_Ck_bareObject : c_mok D_Ck_bareObject := ⟨k_Ck_bareObject, List.mem_of_getElem? (i := 873) rfl, by decide, rfl, Or.inl ⟨rfl, rfl⟩, by decide, by decide, z_Ck, by decide⟩
theorem y_Ck_bareObject : Cond.instanceMethod ⟨R_Ck, "bareObject", "(I)V"⟩ ∈ lw_tbl ∧ Cond.selects R_Ck ⟨R_Ck, "bareObject", "(I)V"⟩ ⟨R_Ck, "bareObject", "(I)V"⟩ ∈ lw_tbl := ⟨List.mem_of_getElem? (i := 872) (by decide +kernel), List.mem_of_getElem? (i := 28) (by decide +kernel)⟩
set_option maxRecDepth 100000 in
theorem o_Ck_applied : c_mok D_Ck_applied := ⟨k_Ck_applied, List.mem_of_getElem? (i := 839) rfl, by decide, rfl, Or.inl ⟨rfl, rfl⟩, by decide, by decide, z_Ck, by decide⟩
theorem y_Ck_applied : Cond.instanceMethod ⟨R_Ck, "applied", "(II)V"⟩ ∈ lw_tbl ∧ Cond.selects R_Ck ⟨R_Ck, "applied", "(II)V"⟩ ⟨R_Ck, "applied", "(II)V"⟩ ∈ lw_tbl := ⟨List.mem_of_getElem? (i := 838) (by decide +kernel), List.mem_of_getElem? (i := 27) (by decide +kernel)⟩
set_option maxRecDepth 100000 in
theorem o_Co_number : c_mok D_Co_number := ⟨k_Co_number, List.mem_of_getElem? (i := 1129) rfl, by decide, rfl, Or.inr (Or.inl ⟨rfl, rfl⟩), by decide, by decide, z_Co, by decide⟩
theorem y_Co_number : Cond.instanceMethod ⟨R_Co, "number", "()I"⟩ ∈ lw_tbl ∧ Cond.selects R_Co ⟨R_Co, "number", "()I"⟩ ⟨R_Co, "number", "()I"⟩ ∈ lw_tbl := ⟨List.mem_of_getElem? (i := 1127) (by decide +kernel), List.mem_of_getElem? (i := 1128) (by decide +kernel)⟩
set_option maxRecDepth 100000 in
theorem o_Co_full : c_mok D_Co_full := ⟨k_Co_full, List.mem_of_getElem? (i := 600) rfl, by decide, rfl, Or.inr (Or.inr ⟨rfl, rfl⟩), by decide, by decide, z_Co, by decide⟩
theorem y_Co_full : Cond.instanceMethod ⟨R_Co, "full", "()Z"⟩ ∈ lw_tbl ∧ Cond.selects R_Co ⟨R_Co, "full", "()Z"⟩ ⟨R_Co, "full", "()Z"⟩ ∈ lw_tbl := ⟨List.mem_of_getElem? (i := 598) (by decide +kernel), List.mem_of_getElem? (i := 599) (by decide +kernel)⟩
set_option maxRecDepth 100000 in
theorem o_Co_sort : c_mok D_Co_sort := ⟨k_Co_sort, List.mem_of_getElem? (i := 785) rfl, by decide, rfl, Or.inr (Or.inl ⟨rfl, rfl⟩), by decide, by decide, z_Co, by decide⟩
theorem y_Co_sort : Cond.instanceMethod ⟨R_Co, "sort", "(I)I"⟩ ∈ lw_tbl ∧ Cond.selects R_Co ⟨R_Co, "sort", "(I)I"⟩ ⟨R_Co, "sort", "(I)I"⟩ ∈ lw_tbl := ⟨List.mem_of_getElem? (i := 783) (by decide +kernel), List.mem_of_getElem? (i := 784) (by decide +kernel)⟩
set_option maxRecDepth 100000 in
theorem o_Co_typeRoot : c_mok D_Co_typeRoot := ⟨k_Co_typeRoot, List.mem_of_getElem? (i := 798) rfl, by decide, rfl, Or.inr (Or.inl ⟨rfl, rfl⟩), by decide, by decide, z_Co, by decide⟩
theorem y_Co_typeRoot : Cond.instanceMethod ⟨R_Co, "typeRoot", "(I)I"⟩ ∈ lw_tbl ∧ Cond.selects R_Co ⟨R_Co, "typeRoot", "(I)I"⟩ ⟨R_Co, "typeRoot", "(I)I"⟩ ∈ lw_tbl := ⟨List.mem_of_getElem? (i := 796) (by decide +kernel), List.mem_of_getElem? (i := 797) (by decide +kernel)⟩
set_option maxRecDepth 100000 in
theorem o_Co_bodyRoot : c_mok D_Co_bodyRoot := ⟨k_Co_bodyRoot, List.mem_of_getElem? (i := 927) rfl, by decide, rfl, Or.inr (Or.inl ⟨rfl, rfl⟩), by decide, by decide, z_Co, by decide⟩
theorem y_Co_bodyRoot : Cond.instanceMethod ⟨R_Co, "bodyRoot", "(I)I"⟩ ∈ lw_tbl ∧ Cond.selects R_Co ⟨R_Co, "bodyRoot", "(I)I"⟩ ⟨R_Co, "bodyRoot", "(I)I"⟩ ∈ lw_tbl := ⟨List.mem_of_getElem? (i := 925) (by decide +kernel), List.mem_of_getElem? (i := 926) (by decide +kernel)⟩
set_option maxRecDepth 100000 in
theorem o_Co_wanted : c_mok D_Co_wanted := ⟨k_Co_wanted, List.mem_of_getElem? (i := 1134) rfl, by decide, rfl, Or.inr (Or.inl ⟨rfl, rfl⟩), by decide, by decide, z_Co, by decide⟩
theorem y_Co_wanted : Cond.instanceMethod ⟨R_Co, "wanted", "(I)I"⟩ ∈ lw_tbl ∧ Cond.selects R_Co ⟨R_Co, "wanted", "(I)I"⟩ ⟨R_Co, "wanted", "(I)I"⟩ ∈ lw_tbl := ⟨List.mem_of_getElem? (i := 1132) (by decide +kernel), List.mem_of_getElem? (i := 1133) (by decide +kernel)⟩
set_option maxRecDepth 100000 in
theorem o_Co_nameLength : c_mok D_Co_nameLength := ⟨k_Co_nameLength, List.mem_of_getElem? (i := 587) rfl, by decide, rfl, Or.inr (Or.inl ⟨rfl, rfl⟩), by decide, by decide, z_Co, by decide⟩
theorem y_Co_nameLength : Cond.instanceMethod ⟨R_Co, "nameLength", "(I)I"⟩ ∈ lw_tbl ∧ Cond.selects R_Co ⟨R_Co, "nameLength", "(I)I"⟩ ⟨R_Co, "nameLength", "(I)I"⟩ ∈ lw_tbl := ⟨List.mem_of_getElem? (i := 585) (by decide +kernel), List.mem_of_getElem? (i := 586) (by decide +kernel)⟩
set_option maxRecDepth 100000 in
theorem o_Co_nameSign : c_mok D_Co_nameSign := ⟨k_Co_nameSign, List.mem_of_getElem? (i := 595) rfl, by decide, rfl, Or.inr (Or.inl ⟨rfl, rfl⟩), by decide, by decide, z_Co, by decide⟩
theorem y_Co_nameSign : Cond.instanceMethod ⟨R_Co, "nameSign", "(II)I"⟩ ∈ lw_tbl ∧ Cond.selects R_Co ⟨R_Co, "nameSign", "(II)I"⟩ ⟨R_Co, "nameSign", "(II)I"⟩ ∈ lw_tbl := ⟨List.mem_of_getElem? (i := 593) (by decide +kernel), List.mem_of_getElem? (i := 594) (by decide +kernel)⟩
set_option maxRecDepth 100000 in
theorem o_Co_name : c_mok D_Co_name := ⟨k_Co_name, List.mem_of_getElem? (i := 957) rfl, by decide, rfl, Or.inl ⟨rfl, rfl⟩, by decide, by decide, z_Co, by decide⟩
theorem y_Co_name : Cond.instanceMethod ⟨R_Co, "name", "(LFrameBench$Tape;II)V"⟩ ∈ lw_tbl ∧ Cond.selects R_Co ⟨R_Co, "name", "(LFrameBench$Tape;II)V"⟩ ⟨R_Co, "name", "(LFrameBench$Tape;II)V"⟩ ∈ lw_tbl := ⟨List.mem_of_getElem? (i := 955) (by decide +kernel), List.mem_of_getElem? (i := 956) (by decide +kernel)⟩
set_option maxRecDepth 100000 in
theorem o_Co_add : c_mok D_Co_add := ⟨k_Co_add, List.mem_of_getElem? (i := 965) rfl, by decide, rfl, Or.inl ⟨rfl, rfl⟩, by decide, by decide, z_Co, by decide⟩
theorem y_Co_add : Cond.instanceMethod ⟨R_Co, "add", "(IIII)V"⟩ ∈ lw_tbl ∧ Cond.selects R_Co ⟨R_Co, "add", "(IIII)V"⟩ ⟨R_Co, "add", "(IIII)V"⟩ ∈ lw_tbl := ⟨List.mem_of_getElem? (i := 963) (by decide +kernel), List.mem_of_getElem? (i := 964) (by decide +kernel)⟩
set_option maxRecDepth 100000 in
theorem o_Co_drop : c_mok D_Co_drop := ⟨k_Co_drop, List.mem_of_getElem? (i := 1161) rfl, by decide, rfl, Or.inl ⟨rfl, rfl⟩, by decide, by decide, z_Co, by decide⟩
theorem y_Co_drop : Cond.instanceMethod ⟨R_Co, "drop", "(I)V"⟩ ∈ lw_tbl ∧ Cond.selects R_Co ⟨R_Co, "drop", "(I)V"⟩ ⟨R_Co, "drop", "(I)V"⟩ ∈ lw_tbl := ⟨List.mem_of_getElem? (i := 1159) (by decide +kernel), List.mem_of_getElem? (i := 1160) (by decide +kernel)⟩
set_option maxRecDepth 100000 in
theorem o_Co_find : c_mok D_Co_find := ⟨k_Co_find, List.mem_of_getElem? (i := 583) rfl, by decide, rfl, Or.inr (Or.inl ⟨rfl, rfl⟩), by decide, by decide, z_Co, by decide⟩
theorem y_Co_find : Cond.instanceMethod ⟨R_Co, "find", "(LFrameBench$Tape;II)I"⟩ ∈ lw_tbl ∧ Cond.selects R_Co ⟨R_Co, "find", "(LFrameBench$Tape;II)I"⟩ ⟨R_Co, "find", "(LFrameBench$Tape;II)I"⟩ ∈ lw_tbl := ⟨List.mem_of_getElem? (i := 581) (by decide +kernel), List.mem_of_getElem? (i := 582) (by decide +kernel)⟩
set_option maxRecDepth 100000 in
theorem o_Co_isNamed : c_mok D_Co_isNamed := ⟨k_Co_isNamed, List.mem_of_getElem? (i := 591) rfl, by decide, rfl, Or.inr (Or.inr ⟨rfl, rfl⟩), by decide, by decide, z_Co, by decide⟩
theorem y_Co_isNamed : Cond.instanceMethod ⟨R_Co, "isNamed", "(ILFrameBench$Tape;I)Z"⟩ ∈ lw_tbl ∧ Cond.selects R_Co ⟨R_Co, "isNamed", "(ILFrameBench$Tape;I)Z"⟩ ⟨R_Co, "isNamed", "(ILFrameBench$Tape;I)Z"⟩ ∈ lw_tbl := ⟨List.mem_of_getElem? (i := 590) (by decide +kernel), List.mem_of_getElem? (i := 4) (by decide +kernel)⟩
set_option maxRecDepth 100000 in
theorem o_Co_fewestXs : c_mok D_Co_fewestXs := ⟨k_Co_fewestXs, List.mem_of_getElem? (i := 1001) rfl, by decide, rfl, Or.inr (Or.inl ⟨rfl, rfl⟩), by decide, by decide, z_Co, by decide⟩
theorem y_Co_fewestXs : Cond.instanceMethod ⟨R_Co, "fewestXs", "()I"⟩ ∈ lw_tbl ∧ Cond.selects R_Co ⟨R_Co, "fewestXs", "()I"⟩ ⟨R_Co, "fewestXs", "()I"⟩ ∈ lw_tbl := ⟨List.mem_of_getElem? (i := 999) (by decide +kernel), List.mem_of_getElem? (i := 1000) (by decide +kernel)⟩
set_option maxRecDepth 100000 in
theorem o_Co_anyIsXsAndNumber : c_mok D_Co_anyIsXsAndNumber := ⟨k_Co_anyIsXsAndNumber, List.mem_of_getElem? (i := 1005) rfl, by decide, rfl, Or.inr (Or.inr ⟨rfl, rfl⟩), by decide, by decide, z_Co, by decide⟩
theorem y_Co_anyIsXsAndNumber : Cond.instanceMethod ⟨R_Co, "anyIsXsAndNumber", "(I)Z"⟩ ∈ lw_tbl ∧ Cond.selects R_Co ⟨R_Co, "anyIsXsAndNumber", "(I)Z"⟩ ⟨R_Co, "anyIsXsAndNumber", "(I)Z"⟩ ∈ lw_tbl := ⟨List.mem_of_getElem? (i := 1004) (by decide +kernel), List.mem_of_getElem? (i := 34) (by decide +kernel)⟩
set_option maxRecDepth 100000 in
theorem o_Co_isXsAndNumber : c_mok D_Co_isXsAndNumber := ⟨k_Co_isXsAndNumber, List.mem_of_getElem? (i := 1009) rfl, by decide, rfl, Or.inr (Or.inr ⟨rfl, rfl⟩), by decide, by decide, z_Co, by decide⟩
theorem y_Co_isXsAndNumber : Cond.instanceMethod ⟨R_Co, "isXsAndNumber", "(II)Z"⟩ ∈ lw_tbl ∧ Cond.selects R_Co ⟨R_Co, "isXsAndNumber", "(II)Z"⟩ ⟨R_Co, "isXsAndNumber", "(II)Z"⟩ ∈ lw_tbl := ⟨List.mem_of_getElem? (i := 1008) (by decide +kernel), List.mem_of_getElem? (i := 35) (by decide +kernel)⟩
set_option maxRecDepth 100000 in
theorem o_Ju_sameObjects : c_mok D_Ju_sameObjects := ⟨k_Ju_sameObjects, List.mem_of_getElem? (i := 1110) rfl, by decide, rfl, Or.inr (Or.inr ⟨rfl, rfl⟩), by decide, by decide, z_Ju, by decide⟩
theorem y_Ju_sameObjects : Cond.instanceMethod ⟨R_Ju, "sameObjects", "(II)Z"⟩ ∈ lw_tbl ∧ Cond.selects R_Ju ⟨R_Ju, "sameObjects", "(II)Z"⟩ ⟨R_Ju, "sameObjects", "(II)Z"⟩ ∈ lw_tbl := ⟨List.mem_of_getElem? (i := 1108) (by decide +kernel), List.mem_of_getElem? (i := 1109) (by decide +kernel)⟩
set_option maxRecDepth 100000 in
theorem o_Ju_families : c_mok D_Ju_families := ⟨k_Ju_families, List.mem_of_getElem? (i := 878) rfl, by decide, rfl, Or.inr (Or.inr ⟨rfl, rfl⟩), by decide, by decide, z_Ju, by decide⟩
theorem y_Ju_families : Cond.instanceMethod ⟨R_Ju, "families", "(IIIII)Z"⟩ ∈ lw_tbl ∧ Cond.selects R_Ju ⟨R_Ju, "families", "(IIIII)Z"⟩ ⟨R_Ju, "families", "(IIIII)Z"⟩ ∈ lw_tbl := ⟨List.mem_of_getElem? (i := 876) (by decide +kernel), List.mem_of_getElem? (i := 877) (by decide +kernel)⟩
set_option maxRecDepth 100000 in
theorem o_Ju_rows : c_mok D_Ju_rows := ⟨k_Ju_rows, List.mem_of_getElem? (i := 901) rfl, by decide, rfl, Or.inr (Or.inr ⟨rfl, rfl⟩), by decide, by decide, z_Ju, by decide⟩
theorem y_Ju_rows : Cond.instanceMethod ⟨R_Ju, "rows", "(IIII)Z"⟩ ∈ lw_tbl ∧ Cond.selects R_Ju ⟨R_Ju, "rows", "(IIII)Z"⟩ ⟨R_Ju, "rows", "(IIII)Z"⟩ ∈ lw_tbl := ⟨List.mem_of_getElem? (i := 900) (by decide +kernel), List.mem_of_getElem? (i := 29) (by decide +kernel)⟩
set_option maxRecDepth 100000 in
theorem o_Ju_meet : c_mok D_Ju_meet := ⟨k_Ju_meet, List.mem_of_getElem? (i := 907) rfl, by decide, rfl, Or.inr (Or.inr ⟨rfl, rfl⟩), by decide, by decide, z_Ju, by decide⟩
theorem y_Ju_meet : Cond.instanceMethod ⟨R_Ju, "meet", "(IIII)Z"⟩ ∈ lw_tbl ∧ Cond.selects R_Ju ⟨R_Ju, "meet", "(IIII)Z"⟩ ⟨R_Ju, "meet", "(IIII)Z"⟩ ∈ lw_tbl := ⟨List.mem_of_getElem? (i := 906) (by decide +kernel), List.mem_of_getElem? (i := 30) (by decide +kernel)⟩
set_option maxRecDepth 100000 in
theorem o_Ju_sameLength : c_mok D_Ju_sameLength := ⟨k_Ju_sameLength, List.mem_of_getElem? (i := 944) rfl, by decide, rfl, Or.inr (Or.inr ⟨rfl, rfl⟩), by decide, by decide, z_Ju, by decide⟩
theorem y_Ju_sameLength : Cond.instanceMethod ⟨R_Ju, "sameLength", "(II)Z"⟩ ∈ lw_tbl ∧ Cond.selects R_Ju ⟨R_Ju, "sameLength", "(II)Z"⟩ ⟨R_Ju, "sameLength", "(II)Z"⟩ ∈ lw_tbl := ⟨List.mem_of_getElem? (i := 943) (by decide +kernel), List.mem_of_getElem? (i := 32) (by decide +kernel)⟩
set_option maxRecDepth 100000 in
theorem o_Ma_shape : c_mok D_Ma_shape := ⟨k_Ma_shape, List.mem_of_getElem? (i := 861) rfl, by decide, rfl, Or.inr (Or.inl ⟨rfl, rfl⟩), by decide, by decide, z_Ma, by decide⟩
theorem y_Ma_shape : Cond.instanceMethod ⟨R_Ma, "shape", "()I"⟩ ∈ lw_tbl ∧ Cond.selects R_Ma ⟨R_Ma, "shape", "()I"⟩ ⟨R_Ma, "shape", "()I"⟩ ∈ lw_tbl := ⟨List.mem_of_getElem? (i := 859) (by decide +kernel), List.mem_of_getElem? (i := 860) (by decide +kernel)⟩
set_option maxRecDepth 100000 in
theorem o_Ma_shapeScope : c_mok D_Ma_shapeScope := ⟨k_Ma_shapeScope, List.mem_of_getElem? (i := 865) rfl, by decide, rfl, Or.inr (Or.inl ⟨rfl, rfl⟩), by decide, by decide, z_Ma, by decide⟩
theorem y_Ma_shapeScope : Cond.instanceMethod ⟨R_Ma, "shapeScope", "()I"⟩ ∈ lw_tbl ∧ Cond.selects R_Ma ⟨R_Ma, "shapeScope", "()I"⟩ ⟨R_Ma, "shapeScope", "()I"⟩ ∈ lw_tbl := ⟨List.mem_of_getElem? (i := 863) (by decide +kernel), List.mem_of_getElem? (i := 864) (by decide +kernel)⟩
set_option maxRecDepth 100000 in
theorem o_Ma_head : c_mok D_Ma_head := ⟨k_Ma_head, List.mem_of_getElem? (i := 932) rfl, by decide, rfl, Or.inr (Or.inl ⟨rfl, rfl⟩), by decide, by decide, z_Ma, by decide⟩
theorem y_Ma_head : Cond.instanceMethod ⟨R_Ma, "head", "()I"⟩ ∈ lw_tbl ∧ Cond.selects R_Ma ⟨R_Ma, "head", "()I"⟩ ⟨R_Ma, "head", "()I"⟩ ∈ lw_tbl := ⟨List.mem_of_getElem? (i := 930) (by decide +kernel), List.mem_of_getElem? (i := 931) (by decide +kernel)⟩
set_option maxRecDepth 100000 in
theorem o_Ma_row : c_mok D_Ma_row := ⟨k_Ma_row, List.mem_of_getElem? (i := 936) rfl, by decide, rfl, Or.inr (Or.inl ⟨rfl, rfl⟩), by decide, by decide, z_Ma, by decide⟩
theorem y_Ma_row : Cond.instanceMethod ⟨R_Ma, "row", "()I"⟩ ∈ lw_tbl ∧ Cond.selects R_Ma ⟨R_Ma, "row", "()I"⟩ ⟨R_Ma, "row", "()I"⟩ ∈ lw_tbl := ⟨List.mem_of_getElem? (i := 934) (by decide +kernel), List.mem_of_getElem? (i := 935) (by decide +kernel)⟩
set_option maxRecDepth 100000 in
theorem o_Ma_headType : c_mok D_Ma_headType := ⟨k_Ma_headType, List.mem_of_getElem? (i := 940) rfl, by decide, rfl, Or.inr (Or.inl ⟨rfl, rfl⟩), by decide, by decide, z_Ma, by decide⟩
theorem y_Ma_headType : Cond.instanceMethod ⟨R_Ma, "headType", "()I"⟩ ∈ lw_tbl ∧ Cond.selects R_Ma ⟨R_Ma, "headType", "()I"⟩ ⟨R_Ma, "headType", "()I"⟩ ∈ lw_tbl := ⟨List.mem_of_getElem? (i := 938) (by decide +kernel), List.mem_of_getElem? (i := 939) (by decide +kernel)⟩
set_option maxRecDepth 100000 in
theorem o_Ma_headTypeScope : c_mok D_Ma_headTypeScope := ⟨k_Ma_headTypeScope, List.mem_of_getElem? (i := 1081) rfl, by decide, rfl, Or.inr (Or.inl ⟨rfl, rfl⟩), by decide, by decide, z_Ma, by decide⟩
theorem y_Ma_headTypeScope : Cond.instanceMethod ⟨R_Ma, "headTypeScope", "()I"⟩ ∈ lw_tbl ∧ Cond.selects R_Ma ⟨R_Ma, "headTypeScope", "()I"⟩ ⟨R_Ma, "headTypeScope", "()I"⟩ ∈ lw_tbl := ⟨List.mem_of_getElem? (i := 1079) (by decide +kernel), List.mem_of_getElem? (i := 1080) (by decide +kernel)⟩
set_option maxRecDepth 100000 in
theorem o_Ma_push : c_mok D_Ma_push := ⟨k_Ma_push, List.mem_of_getElem? (i := 802) rfl, by decide, rfl, Or.inr (Or.inl ⟨rfl, rfl⟩), by decide, by decide, z_Ma, by decide⟩
theorem y_Ma_push : Cond.instanceMethod ⟨R_Ma, "push", "(III)I"⟩ ∈ lw_tbl ∧ Cond.selects R_Ma ⟨R_Ma, "push", "(III)I"⟩ ⟨R_Ma, "push", "(III)I"⟩ ∈ lw_tbl := ⟨List.mem_of_getElem? (i := 800) (by decide +kernel), List.mem_of_getElem? (i := 801) (by decide +kernel)⟩
set_option maxRecDepth 100000 in
theorem o_Ma_expose : c_mok D_Ma_expose := ⟨k_Ma_expose, List.mem_of_getElem? (i := 843) rfl, by decide, rfl, Or.inl ⟨rfl, rfl⟩, by decide, by decide, z_Ma, by decide⟩
theorem y_Ma_expose : Cond.instanceMethod ⟨R_Ma, "expose", "(II)V"⟩ ∈ lw_tbl ∧ Cond.selects R_Ma ⟨R_Ma, "expose", "(II)V"⟩ ⟨R_Ma, "expose", "(II)V"⟩ ∈ lw_tbl := ⟨List.mem_of_getElem? (i := 841) (by decide +kernel), List.mem_of_getElem? (i := 842) (by decide +kernel)⟩
set_option maxRecDepth 100000 in
theorem o_Ma_headForm : c_mok D_Ma_headForm := ⟨k_Ma_headForm, List.mem_of_getElem? (i := 917) rfl, by decide, rfl, Or.inr (Or.inr ⟨rfl, rfl⟩), by decide, by decide, z_Ma, by decide⟩
theorem y_Ma_headForm : Cond.instanceMethod ⟨R_Ma, "headForm", "(III)Z"⟩ ∈ lw_tbl ∧ Cond.selects R_Ma ⟨R_Ma, "headForm", "(III)Z"⟩ ⟨R_Ma, "headForm", "(III)Z"⟩ ∈ lw_tbl := ⟨List.mem_of_getElem? (i := 915) (by decide +kernel), List.mem_of_getElem? (i := 916) (by decide +kernel)⟩
set_option maxRecDepth 100000 in
theorem o_Ma_isDefinition : c_mok D_Ma_isDefinition := ⟨k_Ma_isDefinition, List.mem_of_getElem? (i := 922) rfl, by decide, rfl, Or.inr (Or.inr ⟨rfl, rfl⟩), by decide, by decide, z_Ma, by decide⟩
theorem y_Ma_isDefinition : Cond.instanceMethod ⟨R_Ma, "isDefinition", "(I)Z"⟩ ∈ lw_tbl ∧ Cond.selects R_Ma ⟨R_Ma, "isDefinition", "(I)Z"⟩ ⟨R_Ma, "isDefinition", "(I)Z"⟩ ∈ lw_tbl := ⟨List.mem_of_getElem? (i := 921) (by decide +kernel), List.mem_of_getElem? (i := 31) (by decide +kernel)⟩
set_option maxRecDepth 100000 in
theorem o_Me_begin : c_mok D_Me_begin := ⟨k_Me_begin, List.mem_of_getElem? (i := 508) rfl, by decide, rfl, Or.inl ⟨rfl, rfl⟩, by decide, by decide, z_Me, by decide⟩
theorem y_Me_begin : Cond.instanceMethod ⟨R_Me, "begin", "()V"⟩ ∈ lw_tbl ∧ Cond.selects R_Me ⟨R_Me, "begin", "()V"⟩ ⟨R_Me, "begin", "()V"⟩ ∈ lw_tbl := ⟨List.mem_of_getElem? (i := 506) (by decide +kernel), List.mem_of_getElem? (i := 507) (by decide +kernel)⟩
set_option maxRecDepth 100000 in
theorem o_Me_stepsInAll : c_mok D_Me_stepsInAll := ⟨k_Me_stepsInAll, List.mem_of_getElem? (i := 1170) rfl, by decide, rfl, Or.inr (Or.inl ⟨rfl, rfl⟩), by decide, by decide, z_Me, by decide⟩
theorem y_Me_stepsInAll : Cond.instanceMethod ⟨R_Me, "stepsInAll", "()I"⟩ ∈ lw_tbl ∧ Cond.selects R_Me ⟨R_Me, "stepsInAll", "()I"⟩ ⟨R_Me, "stepsInAll", "()I"⟩ ∈ lw_tbl := ⟨List.mem_of_getElem? (i := 1168) (by decide +kernel), List.mem_of_getElem? (i := 1169) (by decide +kernel)⟩
set_option maxRecDepth 100000 in
theorem o_Me_stepsOfLatest : c_mok D_Me_stepsOfLatest := ⟨k_Me_stepsOfLatest, List.mem_of_getElem? (i := 1174) rfl, by decide, rfl, Or.inr (Or.inl ⟨rfl, rfl⟩), by decide, by decide, z_Me, by decide⟩
theorem y_Me_stepsOfLatest : Cond.instanceMethod ⟨R_Me, "stepsOfLatest", "()I"⟩ ∈ lw_tbl ∧ Cond.selects R_Me ⟨R_Me, "stepsOfLatest", "()I"⟩ ⟨R_Me, "stepsOfLatest", "()I"⟩ ∈ lw_tbl := ⟨List.mem_of_getElem? (i := 1172) (by decide +kernel), List.mem_of_getElem? (i := 1173) (by decide +kernel)⟩
set_option maxRecDepth 100000 in
theorem o_Me_trouble : c_mok D_Me_trouble := ⟨k_Me_trouble, List.mem_of_getElem? (i := 725) rfl, by decide, rfl, Or.inr (Or.inl ⟨rfl, rfl⟩), by decide, by decide, z_Me, by decide⟩
theorem y_Me_trouble : Cond.instanceMethod ⟨R_Me, "trouble", "()I"⟩ ∈ lw_tbl ∧ Cond.selects R_Me ⟨R_Me, "trouble", "()I"⟩ ⟨R_Me, "trouble", "()I"⟩ ∈ lw_tbl := ⟨List.mem_of_getElem? (i := 723) (by decide +kernel), List.mem_of_getElem? (i := 724) (by decide +kernel)⟩
set_option maxRecDepth 100000 in
theorem o_Me_stop : c_mok D_Me_stop := ⟨k_Me_stop, List.mem_of_getElem? (i := 721) rfl, by decide, rfl, Or.inl ⟨rfl, rfl⟩, by decide, by decide, z_Me, by decide⟩
theorem y_Me_stop : Cond.instanceMethod ⟨R_Me, "stop", "(I)V"⟩ ∈ lw_tbl ∧ Cond.selects R_Me ⟨R_Me, "stop", "(I)V"⟩ ⟨R_Me, "stop", "(I)V"⟩ ∈ lw_tbl := ⟨List.mem_of_getElem? (i := 719) (by decide +kernel), List.mem_of_getElem? (i := 720) (by decide +kernel)⟩
set_option maxRecDepth 100000 in
theorem o_Me_step : c_mok D_Me_step := ⟨k_Me_step, List.mem_of_getElem? (i := 716) rfl, by decide, rfl, Or.inr (Or.inr ⟨rfl, rfl⟩), by decide, by decide, z_Me, by decide⟩
theorem y_Me_step : Cond.instanceMethod ⟨R_Me, "step", "()Z"⟩ ∈ lw_tbl ∧ Cond.selects R_Me ⟨R_Me, "step", "()Z"⟩ ⟨R_Me, "step", "()Z"⟩ ∈ lw_tbl := ⟨List.mem_of_getElem? (i := 714) (by decide +kernel), List.mem_of_getElem? (i := 715) (by decide +kernel)⟩
set_option maxRecDepth 100000 in
theorem o_Me_question : c_mok D_Me_question := ⟨k_Me_question, List.mem_of_getElem? (i := 882) rfl, by decide, rfl, Or.inr (Or.inr ⟨rfl, rfl⟩), by decide, by decide, z_Me, by decide⟩
theorem y_Me_question : Cond.instanceMethod ⟨R_Me, "question", "(I)Z"⟩ ∈ lw_tbl ∧ Cond.selects R_Me ⟨R_Me, "question", "(I)Z"⟩ ⟨R_Me, "question", "(I)Z"⟩ ∈ lw_tbl := ⟨List.mem_of_getElem? (i := 880) (by decide +kernel), List.mem_of_getElem? (i := 881) (by decide +kernel)⟩
set_option maxRecDepth 100000 in
theorem o_No_mark : c_mok D_No_mark := ⟨k_No_mark, List.mem_of_getElem? (i := 552) rfl, by decide, rfl, Or.inr (Or.inl ⟨rfl, rfl⟩), by decide, by decide, z_No, by decide⟩
theorem y_No_mark : Cond.instanceMethod ⟨R_No, "mark", "()I"⟩ ∈ lw_tbl ∧ Cond.selects R_No ⟨R_No, "mark", "()I"⟩ ⟨R_No, "mark", "()I"⟩ ∈ lw_tbl := ⟨List.mem_of_getElem? (i := 550) (by decide +kernel), List.mem_of_getElem? (i := 551) (by decide +kernel)⟩
set_option maxRecDepth 100000 in
theorem o_No_release : c_mok D_No_release := ⟨k_No_release, List.mem_of_getElem? (i := 969) rfl, by decide, rfl, Or.inl ⟨rfl, rfl⟩, by decide, by decide, z_No, by decide⟩
theorem y_No_release : Cond.instanceMethod ⟨R_No, "release", "(I)V"⟩ ∈ lw_tbl ∧ Cond.selects R_No ⟨R_No, "release", "(I)V"⟩ ⟨R_No, "release", "(I)V"⟩ ∈ lw_tbl := ⟨List.mem_of_getElem? (i := 967) (by decide +kernel), List.mem_of_getElem? (i := 968) (by decide +kernel)⟩
set_option maxRecDepth 100000 in
theorem o_No_full : c_mok D_No_full := ⟨k_No_full, List.mem_of_getElem? (i := 641) rfl, by decide, rfl, Or.inr (Or.inr ⟨rfl, rfl⟩), by decide, by decide, z_No, by decide⟩
theorem y_No_full : Cond.instanceMethod ⟨R_No, "full", "()Z"⟩ ∈ lw_tbl ∧ Cond.selects R_No ⟨R_No, "full", "()Z"⟩ ⟨R_No, "full", "()Z"⟩ ∈ lw_tbl := ⟨List.mem_of_getElem? (i := 639) (by decide +kernel), List.mem_of_getElem? (i := 640) (by decide +kernel)⟩
set_option maxRecDepth 100000 in
theorem o_No_make : c_mok D_No_make := ⟨k_No_make, List.mem_of_getElem? (i := 645) rfl, by decide, rfl, Or.inr (Or.inl ⟨rfl, rfl⟩), by decide, by decide, z_No, by decide⟩
theorem y_No_make : Cond.instanceMethod ⟨R_No, "make", "(IIIII)I"⟩ ∈ lw_tbl ∧ Cond.selects R_No ⟨R_No, "make", "(IIIII)I"⟩ ⟨R_No, "make", "(IIIII)I"⟩ ∈ lw_tbl := ⟨List.mem_of_getElem? (i := 643) (by decide +kernel), List.mem_of_getElem? (i := 644) (by decide +kernel)⟩
set_option maxRecDepth 100000 in
theorem o_No_kind : c_mok D_No_kind := ⟨k_No_kind, List.mem_of_getElem? (i := 704) rfl, by decide, rfl, Or.inr (Or.inl ⟨rfl, rfl⟩), by decide, by decide, z_No, by decide⟩
theorem y_No_kind : Cond.instanceMethod ⟨R_No, "kind", "(I)I"⟩ ∈ lw_tbl ∧ Cond.selects R_No ⟨R_No, "kind", "(I)I"⟩ ⟨R_No, "kind", "(I)I"⟩ ∈ lw_tbl := ⟨List.mem_of_getElem? (i := 702) (by decide +kernel), List.mem_of_getElem? (i := 703) (by decide +kernel)⟩
set_option maxRecDepth 100000 in
theorem o_No_left : c_mok D_No_left := ⟨k_No_left, List.mem_of_getElem? (i := 734) rfl, by decide, rfl, Or.inr (Or.inl ⟨rfl, rfl⟩), by decide, by decide, z_No, by decide⟩
theorem y_No_left : Cond.instanceMethod ⟨R_No, "left", "(I)I"⟩ ∈ lw_tbl ∧ Cond.selects R_No ⟨R_No, "left", "(I)I"⟩ ⟨R_No, "left", "(I)I"⟩ ∈ lw_tbl := ⟨List.mem_of_getElem? (i := 732) (by decide +kernel), List.mem_of_getElem? (i := 733) (by decide +kernel)⟩
set_option maxRecDepth 100000 in
theorem o_No_right : c_mok D_No_right := ⟨k_No_right, List.mem_of_getElem? (i := 763) rfl, by decide, rfl, Or.inr (Or.inl ⟨rfl, rfl⟩), by decide, by decide, z_No, by decide⟩
theorem y_No_right : Cond.instanceMethod ⟨R_No, "right", "(I)I"⟩ ∈ lw_tbl ∧ Cond.selects R_No ⟨R_No, "right", "(I)I"⟩ ⟨R_No, "right", "(I)I"⟩ ∈ lw_tbl := ⟨List.mem_of_getElem? (i := 761) (by decide +kernel), List.mem_of_getElem? (i := 762) (by decide +kernel)⟩
set_option maxRecDepth 100000 in
theorem o_No_sibling : c_mok D_No_sibling := ⟨k_No_sibling, List.mem_of_getElem? (i := 827) rfl, by decide, rfl, Or.inr (Or.inl ⟨rfl, rfl⟩), by decide, by decide, z_No, by decide⟩
theorem y_No_sibling : Cond.instanceMethod ⟨R_No, "sibling", "(I)I"⟩ ∈ lw_tbl ∧ Cond.selects R_No ⟨R_No, "sibling", "(I)I"⟩ ⟨R_No, "sibling", "(I)I"⟩ ∈ lw_tbl := ⟨List.mem_of_getElem? (i := 825) (by decide +kernel), List.mem_of_getElem? (i := 826) (by decide +kernel)⟩
set_option maxRecDepth 100000 in
theorem o_No_token : c_mok D_No_token := ⟨k_No_token, List.mem_of_getElem? (i := 708) rfl, by decide, rfl, Or.inr (Or.inl ⟨rfl, rfl⟩), by decide, by decide, z_No, by decide⟩
theorem y_No_token : Cond.instanceMethod ⟨R_No, "token", "(I)I"⟩ ∈ lw_tbl ∧ Cond.selects R_No ⟨R_No, "token", "(I)I"⟩ ⟨R_No, "token", "(I)I"⟩ ∈ lw_tbl := ⟨List.mem_of_getElem? (i := 706) (by decide +kernel), List.mem_of_getElem? (i := 707) (by decide +kernel)⟩
set_option maxRecDepth 100000 in
theorem o_No_first : c_mok D_No_first := ⟨k_No_first, List.mem_of_getElem? (i := 776) rfl, by decide, rfl, Or.inr (Or.inl ⟨rfl, rfl⟩), by decide, by decide, z_No, by decide⟩
theorem y_No_first : Cond.instanceMethod ⟨R_No, "first", "(I)I"⟩ ∈ lw_tbl ∧ Cond.selects R_No ⟨R_No, "first", "(I)I"⟩ ⟨R_No, "first", "(I)I"⟩ ∈ lw_tbl := ⟨List.mem_of_getElem? (i := 774) (by decide +kernel), List.mem_of_getElem? (i := 775) (by decide +kernel)⟩
set_option maxRecDepth 100000 in
theorem o_No_place : c_mok D_No_place := ⟨k_No_place, List.mem_of_getElem? (i := 680) rfl, by decide, rfl, Or.inr (Or.inl ⟨rfl, rfl⟩), by decide, by decide, z_No, by decide⟩
theorem y_No_place : Cond.instanceMethod ⟨R_No, "place", "(I)I"⟩ ∈ lw_tbl ∧ Cond.selects R_No ⟨R_No, "place", "(I)I"⟩ ⟨R_No, "place", "(I)I"⟩ ∈ lw_tbl := ⟨List.mem_of_getElem? (i := 678) (by decide +kernel), List.mem_of_getElem? (i := 679) (by decide +kernel)⟩
set_option maxRecDepth 100000 in
theorem o_No_inBrackets : c_mok D_No_inBrackets := ⟨k_No_inBrackets, List.mem_of_getElem? (i := 771) rfl, by decide, rfl, Or.inr (Or.inr ⟨rfl, rfl⟩), by decide, by decide, z_No, by decide⟩
theorem y_No_inBrackets : Cond.instanceMethod ⟨R_No, "inBrackets", "(I)Z"⟩ ∈ lw_tbl ∧ Cond.selects R_No ⟨R_No, "inBrackets", "(I)Z"⟩ ⟨R_No, "inBrackets", "(I)Z"⟩ ∈ lw_tbl := ⟨List.mem_of_getElem? (i := 769) (by decide +kernel), List.mem_of_getElem? (i := 770) (by decide +kernel)⟩
set_option maxRecDepth 100000 in
theorem o_No_isArrow : c_mok D_No_isArrow := ⟨k_No_isArrow, List.mem_of_getElem? (i := 855) rfl, by decide, rfl, Or.inr (Or.inr ⟨rfl, rfl⟩), by decide, by decide, z_No, by decide⟩
theorem y_No_isArrow : Cond.instanceMethod ⟨R_No, "isArrow", "(I)Z"⟩ ∈ lw_tbl ∧ Cond.selects R_No ⟨R_No, "isArrow", "(I)Z"⟩ ⟨R_No, "isArrow", "(I)Z"⟩ ∈ lw_tbl := ⟨List.mem_of_getElem? (i := 853) (by decide +kernel), List.mem_of_getElem? (i := 854) (by decide +kernel)⟩
set_option maxRecDepth 100000 in
theorem o_No_setPlace : c_mok D_No_setPlace := ⟨k_No_setPlace, List.mem_of_getElem? (i := 661) rfl, by decide, rfl, Or.inl ⟨rfl, rfl⟩, by decide, by decide, z_No, by decide⟩
theorem y_No_setPlace : Cond.instanceMethod ⟨R_No, "setPlace", "(II)V"⟩ ∈ lw_tbl ∧ Cond.selects R_No ⟨R_No, "setPlace", "(II)V"⟩ ⟨R_No, "setPlace", "(II)V"⟩ ∈ lw_tbl := ⟨List.mem_of_getElem? (i := 659) (by decide +kernel), List.mem_of_getElem? (i := 660) (by decide +kernel)⟩
set_option maxRecDepth 100000 in
theorem o_No_setSibling : c_mok D_No_setSibling := ⟨k_No_setSibling, List.mem_of_getElem? (i := 676) rfl, by decide, rfl, Or.inl ⟨rfl, rfl⟩, by decide, by decide, z_No, by decide⟩
theorem y_No_setSibling : Cond.instanceMethod ⟨R_No, "setSibling", "(II)V"⟩ ∈ lw_tbl ∧ Cond.selects R_No ⟨R_No, "setSibling", "(II)V"⟩ ⟨R_No, "setSibling", "(II)V"⟩ ∈ lw_tbl := ⟨List.mem_of_getElem? (i := 674) (by decide +kernel), List.mem_of_getElem? (i := 675) (by decide +kernel)⟩
set_option maxRecDepth 100000 in
theorem o_No_becomeFamily : c_mok D_No_becomeFamily := ⟨k_No_becomeFamily, List.mem_of_getElem? (i := 790) rfl, by decide, rfl, Or.inl ⟨rfl, rfl⟩, by decide, by decide, z_No, by decide⟩
theorem y_No_becomeFamily : Cond.instanceMethod ⟨R_No, "becomeFamily", "(II)V"⟩ ∈ lw_tbl ∧ Cond.selects R_No ⟨R_No, "becomeFamily", "(II)V"⟩ ⟨R_No, "becomeFamily", "(II)V"⟩ ∈ lw_tbl := ⟨List.mem_of_getElem? (i := 788) (by decide +kernel), List.mem_of_getElem? (i := 789) (by decide +kernel)⟩
set_option maxRecDepth 100000 in
theorem o_Pa_length : c_mok D_Pa_length := ⟨k_Pa_length, List.mem_of_getElem? (i := 1145) rfl, by decide, rfl, Or.inr (Or.inl ⟨rfl, rfl⟩), by decide, by decide, z_Pa, by decide⟩
theorem y_Pa_length : Cond.instanceMethod ⟨R_Pa, "length", "()I"⟩ ∈ lw_tbl ∧ Cond.selects R_Pa ⟨R_Pa, "length", "()I"⟩ ⟨R_Pa, "length", "()I"⟩ ∈ lw_tbl := ⟨List.mem_of_getElem? (i := 1143) (by decide +kernel), List.mem_of_getElem? (i := 1144) (by decide +kernel)⟩
set_option maxRecDepth 100000 in
theorem o_Pa_signAt : c_mok D_Pa_signAt := ⟨k_Pa_signAt, List.mem_of_getElem? (i := 1153) rfl, by decide, rfl, Or.inr (Or.inl ⟨rfl, rfl⟩), by decide, by decide, z_Pa, by decide⟩
theorem y_Pa_signAt : Cond.instanceMethod ⟨R_Pa, "signAt", "(I)I"⟩ ∈ lw_tbl ∧ Cond.selects R_Pa ⟨R_Pa, "signAt", "(I)I"⟩ ⟨R_Pa, "signAt", "(I)I"⟩ ∈ lw_tbl := ⟨List.mem_of_getElem? (i := 1151) (by decide +kernel), List.mem_of_getElem? (i := 1152) (by decide +kernel)⟩
set_option maxRecDepth 100000 in
theorem o_Pa_beginDraft : c_mok D_Pa_beginDraft := ⟨k_Pa_beginDraft, List.mem_of_getElem? (i := 1014) rfl, by decide, rfl, Or.inl ⟨rfl, rfl⟩, by decide, by decide, z_Pa, by decide⟩
theorem y_Pa_beginDraft : Cond.instanceMethod ⟨R_Pa, "beginDraft", "()V"⟩ ∈ lw_tbl ∧ Cond.selects R_Pa ⟨R_Pa, "beginDraft", "()V"⟩ ⟨R_Pa, "beginDraft", "()V"⟩ ∈ lw_tbl := ⟨List.mem_of_getElem? (i := 1012) (by decide +kernel), List.mem_of_getElem? (i := 1013) (by decide +kernel)⟩
set_option maxRecDepth 100000 in
theorem o_Pa_put : c_mok D_Pa_put := ⟨k_Pa_put, List.mem_of_getElem? (i := 1027) rfl, by decide, rfl, Or.inl ⟨rfl, rfl⟩, by decide, by decide, z_Pa, by decide⟩
theorem y_Pa_put : Cond.instanceMethod ⟨R_Pa, "put", "(I)V"⟩ ∈ lw_tbl ∧ Cond.selects R_Pa ⟨R_Pa, "put", "(I)V"⟩ ⟨R_Pa, "put", "(I)V"⟩ ∈ lw_tbl := ⟨List.mem_of_getElem? (i := 1025) (by decide +kernel), List.mem_of_getElem? (i := 1026) (by decide +kernel)⟩
set_option maxRecDepth 100000 in
theorem o_Pa_keepDraft : c_mok D_Pa_keepDraft := ⟨k_Pa_keepDraft, List.mem_of_getElem? (i := 1087) rfl, by decide, rfl, Or.inl ⟨rfl, rfl⟩, by decide, by decide, z_Pa, by decide⟩
theorem y_Pa_keepDraft : Cond.instanceMethod ⟨R_Pa, "keepDraft", "()V"⟩ ∈ lw_tbl ∧ Cond.selects R_Pa ⟨R_Pa, "keepDraft", "()V"⟩ ⟨R_Pa, "keepDraft", "()V"⟩ ∈ lw_tbl := ⟨List.mem_of_getElem? (i := 1085) (by decide +kernel), List.mem_of_getElem? (i := 1086) (by decide +kernel)⟩
set_option maxRecDepth 100000 in
theorem o_Re_begin : c_mok D_Re_begin := ⟨k_Re_begin, List.mem_of_getElem? (i := 516) rfl, by decide, rfl, Or.inl ⟨rfl, rfl⟩, by decide, by decide, z_Re, by decide⟩
theorem y_Re_begin : Cond.instanceMethod ⟨R_Re, "begin", "()V"⟩ ∈ lw_tbl ∧ Cond.selects R_Re ⟨R_Re, "begin", "()V"⟩ ⟨R_Re, "begin", "()V"⟩ ∈ lw_tbl := ⟨List.mem_of_getElem? (i := 514) (by decide +kernel), List.mem_of_getElem? (i := 515) (by decide +kernel)⟩
set_option maxRecDepth 100000 in
theorem o_Re_fault : c_mok D_Re_fault := ⟨k_Re_fault, List.mem_of_getElem? (i := 989) rfl, by decide, rfl, Or.inr (Or.inl ⟨rfl, rfl⟩), by decide, by decide, z_Re, by decide⟩
theorem y_Re_fault : Cond.instanceMethod ⟨R_Re, "fault", "()I"⟩ ∈ lw_tbl ∧ Cond.selects R_Re ⟨R_Re, "fault", "()I"⟩ ⟨R_Re, "fault", "()I"⟩ ∈ lw_tbl := ⟨List.mem_of_getElem? (i := 987) (by decide +kernel), List.mem_of_getElem? (i := 988) (by decide +kernel)⟩
set_option maxRecDepth 100000 in
theorem o_Re_namePlace : c_mok D_Re_namePlace := ⟨k_Re_namePlace, List.mem_of_getElem? (i := 949) rfl, by decide, rfl, Or.inr (Or.inl ⟨rfl, rfl⟩), by decide, by decide, z_Re, by decide⟩
theorem y_Re_namePlace : Cond.instanceMethod ⟨R_Re, "namePlace", "()I"⟩ ∈ lw_tbl ∧ Cond.selects R_Re ⟨R_Re, "namePlace", "()I"⟩ ⟨R_Re, "namePlace", "()I"⟩ ∈ lw_tbl := ⟨List.mem_of_getElem? (i := 947) (by decide +kernel), List.mem_of_getElem? (i := 948) (by decide +kernel)⟩
set_option maxRecDepth 100000 in
theorem o_Re_nameLength : c_mok D_Re_nameLength := ⟨k_Re_nameLength, List.mem_of_getElem? (i := 953) rfl, by decide, rfl, Or.inr (Or.inl ⟨rfl, rfl⟩), by decide, by decide, z_Re, by decide⟩
theorem y_Re_nameLength : Cond.instanceMethod ⟨R_Re, "nameLength", "()I"⟩ ∈ lw_tbl ∧ Cond.selects R_Re ⟨R_Re, "nameLength", "()I"⟩ ⟨R_Re, "nameLength", "()I"⟩ ∈ lw_tbl := ⟨List.mem_of_getElem? (i := 951) (by decide +kernel), List.mem_of_getElem? (i := 952) (by decide +kernel)⟩
set_option maxRecDepth 100000 in
theorem o_Re_typeRoot : c_mok D_Re_typeRoot := ⟨k_Re_typeRoot, List.mem_of_getElem? (i := 684) rfl, by decide, rfl, Or.inr (Or.inl ⟨rfl, rfl⟩), by decide, by decide, z_Re, by decide⟩
theorem y_Re_typeRoot : Cond.instanceMethod ⟨R_Re, "typeRoot", "()I"⟩ ∈ lw_tbl ∧ Cond.selects R_Re ⟨R_Re, "typeRoot", "()I"⟩ ⟨R_Re, "typeRoot", "()I"⟩ ∈ lw_tbl := ⟨List.mem_of_getElem? (i := 682) (by decide +kernel), List.mem_of_getElem? (i := 683) (by decide +kernel)⟩
set_option maxRecDepth 100000 in
theorem o_Re_bodyRoot : c_mok D_Re_bodyRoot := ⟨k_Re_bodyRoot, List.mem_of_getElem? (i := 688) rfl, by decide, rfl, Or.inr (Or.inl ⟨rfl, rfl⟩), by decide, by decide, z_Re, by decide⟩
theorem y_Re_bodyRoot : Cond.instanceMethod ⟨R_Re, "bodyRoot", "()I"⟩ ∈ lw_tbl ∧ Cond.selects R_Re ⟨R_Re, "bodyRoot", "()I"⟩ ⟨R_Re, "bodyRoot", "()I"⟩ ∈ lw_tbl := ⟨List.mem_of_getElem? (i := 686) (by decide +kernel), List.mem_of_getElem? (i := 687) (by decide +kernel)⟩
set_option maxRecDepth 100000 in
theorem o_Re_faultOfDeclaration : c_mok D_Re_faultOfDeclaration := ⟨k_Re_faultOfDeclaration, List.mem_of_getElem? (i := 556) rfl, by decide, rfl, Or.inr (Or.inl ⟨rfl, rfl⟩), by decide, by decide, z_Re, by decide⟩
theorem y_Re_faultOfDeclaration : Cond.instanceMethod ⟨R_Re, "faultOfDeclaration", "()I"⟩ ∈ lw_tbl ∧ Cond.selects R_Re ⟨R_Re, "faultOfDeclaration", "()I"⟩ ⟨R_Re, "faultOfDeclaration", "()I"⟩ ∈ lw_tbl := ⟨List.mem_of_getElem? (i := 554) (by decide +kernel), List.mem_of_getElem? (i := 555) (by decide +kernel)⟩
set_option maxRecDepth 100000 in
theorem o_Re_expressionBefore : c_mok D_Re_expressionBefore := ⟨k_Re_expressionBefore, List.mem_of_getElem? (i := 985) rfl, by decide, rfl, Or.inr (Or.inl ⟨rfl, rfl⟩), by decide, by decide, z_Re, by decide⟩
theorem y_Re_expressionBefore : Cond.instanceMethod ⟨R_Re, "expressionBefore", "(I)I"⟩ ∈ lw_tbl ∧ Cond.selects R_Re ⟨R_Re, "expressionBefore", "(I)I"⟩ ⟨R_Re, "expressionBefore", "(I)I"⟩ ∈ lw_tbl := ⟨List.mem_of_getElem? (i := 983) (by decide +kernel), List.mem_of_getElem? (i := 984) (by decide +kernel)⟩
set_option maxRecDepth 100000 in
theorem o_Re_readNewName : c_mok D_Re_readNewName := ⟨k_Re_readNewName, List.mem_of_getElem? (i := 560) rfl, by decide, rfl, Or.inl ⟨rfl, rfl⟩, by decide, by decide, z_Re, by decide⟩
theorem y_Re_readNewName : Cond.instanceMethod ⟨R_Re, "readNewName", "()V"⟩ ∈ lw_tbl ∧ Cond.selects R_Re ⟨R_Re, "readNewName", "()V"⟩ ⟨R_Re, "readNewName", "()V"⟩ ∈ lw_tbl := ⟨List.mem_of_getElem? (i := 559) (by decide +kernel), List.mem_of_getElem? (i := 2) (by decide +kernel)⟩
set_option maxRecDepth 100000 in
theorem o_Re_take : c_mok D_Re_take := ⟨k_Re_take, List.mem_of_getElem? (i := 605) rfl, by decide, rfl, Or.inl ⟨rfl, rfl⟩, by decide, by decide, z_Re, by decide⟩
theorem y_Re_take : Cond.instanceMethod ⟨R_Re, "take", "(I)V"⟩ ∈ lw_tbl ∧ Cond.selects R_Re ⟨R_Re, "take", "(I)V"⟩ ⟨R_Re, "take", "(I)V"⟩ ∈ lw_tbl := ⟨List.mem_of_getElem? (i := 604) (by decide +kernel), List.mem_of_getElem? (i := 5) (by decide +kernel)⟩
set_option maxRecDepth 100000 in
theorem o_Re_refuse : c_mok D_Re_refuse := ⟨k_Re_refuse, List.mem_of_getElem? (i := 576) rfl, by decide, rfl, Or.inr (Or.inl ⟨rfl, rfl⟩), by decide, by decide, z_Re, by decide⟩
theorem y_Re_refuse : Cond.instanceMethod ⟨R_Re, "refuse", "(I)I"⟩ ∈ lw_tbl ∧ Cond.selects R_Re ⟨R_Re, "refuse", "(I)I"⟩ ⟨R_Re, "refuse", "(I)I"⟩ ∈ lw_tbl := ⟨List.mem_of_getElem? (i := 575) (by decide +kernel), List.mem_of_getElem? (i := 3) (by decide +kernel)⟩
set_option maxRecDepth 100000 in
theorem o_Re_wholeExpression : c_mok D_Re_wholeExpression := ⟨k_Re_wholeExpression, List.mem_of_getElem? (i := 609) rfl, by decide, rfl, Or.inr (Or.inl ⟨rfl, rfl⟩), by decide, by decide, z_Re, by decide⟩
theorem y_Re_wholeExpression : Cond.instanceMethod ⟨R_Re, "wholeExpression", "()I"⟩ ∈ lw_tbl ∧ Cond.selects R_Re ⟨R_Re, "wholeExpression", "()I"⟩ ⟨R_Re, "wholeExpression", "()I"⟩ ∈ lw_tbl := ⟨List.mem_of_getElem? (i := 608) (by decide +kernel), List.mem_of_getElem? (i := 6) (by decide +kernel)⟩
set_option maxRecDepth 100000 in
theorem o_Re_expression : c_mok D_Re_expression := ⟨k_Re_expression, List.mem_of_getElem? (i := 613) rfl, by decide, rfl, Or.inr (Or.inl ⟨rfl, rfl⟩), by decide, by decide, z_Re, by decide⟩
theorem y_Re_expression : Cond.instanceMethod ⟨R_Re, "expression", "(I)I"⟩ ∈ lw_tbl ∧ Cond.selects R_Re ⟨R_Re, "expression", "(I)I"⟩ ⟨R_Re, "expression", "(I)I"⟩ ∈ lw_tbl := ⟨List.mem_of_getElem? (i := 612) (by decide +kernel), List.mem_of_getElem? (i := 7) (by decide +kernel)⟩
set_option maxRecDepth 100000 in
theorem o_Re_binding : c_mok D_Re_binding := ⟨k_Re_binding, List.mem_of_getElem? (i := 621) rfl, by decide, rfl, Or.inr (Or.inl ⟨rfl, rfl⟩), by decide, by decide, z_Re, by decide⟩
theorem y_Re_binding : Cond.instanceMethod ⟨R_Re, "binding", "(I)I"⟩ ∈ lw_tbl ∧ Cond.selects R_Re ⟨R_Re, "binding", "(I)I"⟩ ⟨R_Re, "binding", "(I)I"⟩ ∈ lw_tbl := ⟨List.mem_of_getElem? (i := 620) (by decide +kernel), List.mem_of_getElem? (i := 9) (by decide +kernel)⟩
set_option maxRecDepth 100000 in
theorem o_Re_arrow : c_mok D_Re_arrow := ⟨k_Re_arrow, List.mem_of_getElem? (i := 649) rfl, by decide, rfl, Or.inr (Or.inl ⟨rfl, rfl⟩), by decide, by decide, z_Re, by decide⟩
theorem y_Re_arrow : Cond.instanceMethod ⟨R_Re, "arrow", "(I)I"⟩ ∈ lw_tbl ∧ Cond.selects R_Re ⟨R_Re, "arrow", "(I)I"⟩ ⟨R_Re, "arrow", "(I)I"⟩ ∈ lw_tbl := ⟨List.mem_of_getElem? (i := 648) (by decide +kernel), List.mem_of_getElem? (i := 14) (by decide +kernel)⟩
set_option maxRecDepth 100000 in
theorem o_Re_application : c_mok D_Re_application := ⟨k_Re_application, List.mem_of_getElem? (i := 653) rfl, by decide, rfl, Or.inr (Or.inl ⟨rfl, rfl⟩), by decide, by decide, z_Re, by decide⟩
theorem y_Re_application : Cond.instanceMethod ⟨R_Re, "application", "(I)I"⟩ ∈ lw_tbl ∧ Cond.selects R_Re ⟨R_Re, "application", "(I)I"⟩ ⟨R_Re, "application", "(I)I"⟩ ∈ lw_tbl := ⟨List.mem_of_getElem? (i := 652) (by decide +kernel), List.mem_of_getElem? (i := 15) (by decide +kernel)⟩
set_option maxRecDepth 100000 in
theorem o_Re_part : c_mok D_Re_part := ⟨k_Re_part, List.mem_of_getElem? (i := 657) rfl, by decide, rfl, Or.inr (Or.inl ⟨rfl, rfl⟩), by decide, by decide, z_Re, by decide⟩
theorem y_Re_part : Cond.instanceMethod ⟨R_Re, "part", "(I)I"⟩ ∈ lw_tbl ∧ Cond.selects R_Re ⟨R_Re, "part", "(I)I"⟩ ⟨R_Re, "part", "(I)I"⟩ ∈ lw_tbl := ⟨List.mem_of_getElem? (i := 656) (by decide +kernel), List.mem_of_getElem? (i := 16) (by decide +kernel)⟩
set_option maxRecDepth 100000 in
theorem o_Re_startsPart : c_mok D_Re_startsPart := ⟨k_Re_startsPart, List.mem_of_getElem? (i := 617) rfl, by decide, rfl, Or.inr (Or.inr ⟨rfl, rfl⟩), by decide, by decide, z_Re, by decide⟩
theorem y_Re_startsPart : Cond.instanceMethod ⟨R_Re, "startsPart", "()Z"⟩ ∈ lw_tbl ∧ Cond.selects R_Re ⟨R_Re, "startsPart", "()Z"⟩ ⟨R_Re, "startsPart", "()Z"⟩ ∈ lw_tbl := ⟨List.mem_of_getElem? (i := 616) (by decide +kernel), List.mem_of_getElem? (i := 8) (by decide +kernel)⟩
set_option maxRecDepth 100000 in
theorem o_Re_countPart : c_mok D_Re_countPart := ⟨k_Re_countPart, List.mem_of_getElem? (i := 625) rfl, by decide, rfl, Or.inr (Or.inr ⟨rfl, rfl⟩), by decide, by decide, z_Re, by decide⟩
theorem y_Re_countPart : Cond.instanceMethod ⟨R_Re, "countPart", "()Z"⟩ ∈ lw_tbl ∧ Cond.selects R_Re ⟨R_Re, "countPart", "()Z"⟩ ⟨R_Re, "countPart", "()Z"⟩ ∈ lw_tbl := ⟨List.mem_of_getElem? (i := 624) (by decide +kernel), List.mem_of_getElem? (i := 10) (by decide +kernel)⟩
set_option maxRecDepth 100000 in
theorem o_Re_nameNode : c_mok D_Re_nameNode := ⟨k_Re_nameNode, List.mem_of_getElem? (i := 665) rfl, by decide, rfl, Or.inr (Or.inl ⟨rfl, rfl⟩), by decide, by decide, z_Re, by decide⟩
theorem y_Re_nameNode : Cond.instanceMethod ⟨R_Re, "nameNode", "(I)I"⟩ ∈ lw_tbl ∧ Cond.selects R_Re ⟨R_Re, "nameNode", "(I)I"⟩ ⟨R_Re, "nameNode", "(I)I"⟩ ∈ lw_tbl := ⟨List.mem_of_getElem? (i := 664) (by decide +kernel), List.mem_of_getElem? (i := 17) (by decide +kernel)⟩
set_option maxRecDepth 100000 in
theorem o_Re_node : c_mok D_Re_node := ⟨k_Re_node, List.mem_of_getElem? (i := 637) rfl, by decide, rfl, Or.inr (Or.inl ⟨rfl, rfl⟩), by decide, by decide, z_Re, by decide⟩
theorem y_Re_node : Cond.instanceMethod ⟨R_Re, "node", "(IIIII)I"⟩ ∈ lw_tbl ∧ Cond.selects R_Re ⟨R_Re, "node", "(IIIII)I"⟩ ⟨R_Re, "node", "(IIIII)I"⟩ ∈ lw_tbl := ⟨List.mem_of_getElem? (i := 636) (by decide +kernel), List.mem_of_getElem? (i := 13) (by decide +kernel)⟩
set_option maxRecDepth 100000 in
theorem o_Re_enterScope : c_mok D_Re_enterScope := ⟨k_Re_enterScope, List.mem_of_getElem? (i := 629) rfl, by decide, rfl, Or.inl ⟨rfl, rfl⟩, by decide, by decide, z_Re, by decide⟩
theorem y_Re_enterScope : Cond.instanceMethod ⟨R_Re, "enterScope", "(II)V"⟩ ∈ lw_tbl ∧ Cond.selects R_Re ⟨R_Re, "enterScope", "(II)V"⟩ ⟨R_Re, "enterScope", "(II)V"⟩ ∈ lw_tbl := ⟨List.mem_of_getElem? (i := 628) (by decide +kernel), List.mem_of_getElem? (i := 11) (by decide +kernel)⟩
set_option maxRecDepth 100000 in
theorem o_Re_leaveScope : c_mok D_Re_leaveScope := ⟨k_Re_leaveScope, List.mem_of_getElem? (i := 633) rfl, by decide, rfl, Or.inl ⟨rfl, rfl⟩, by decide, by decide, z_Re, by decide⟩
theorem y_Re_leaveScope : Cond.instanceMethod ⟨R_Re, "leaveScope", "()V"⟩ ∈ lw_tbl ∧ Cond.selects R_Re ⟨R_Re, "leaveScope", "()V"⟩ ⟨R_Re, "leaveScope", "()V"⟩ ∈ lw_tbl := ⟨List.mem_of_getElem? (i := 632) (by decide +kernel), List.mem_of_getElem? (i := 12) (by decide +kernel)⟩
set_option maxRecDepth 100000 in
theorem o_Ta_append : c_mok D_Ta_append := ⟨k_Ta_append, List.mem_of_getElem? (i := 491) rfl, by decide, rfl, Or.inl ⟨rfl, rfl⟩, by decide, by decide, z_Ta, by decide⟩
theorem y_Ta_append : Cond.instanceMethod ⟨R_Ta, "append", "(J)V"⟩ ∈ lw_tbl ∧ Cond.selects R_Ta ⟨R_Ta, "append", "(J)V"⟩ ⟨R_Ta, "append", "(J)V"⟩ ∈ lw_tbl := ⟨List.mem_of_getElem? (i := 489) (by decide +kernel), List.mem_of_getElem? (i := 490) (by decide +kernel)⟩
set_option maxRecDepth 100000 in
theorem o_Ta_length : c_mok D_Ta_length := ⟨k_Ta_length, List.mem_of_getElem? (i := 496) rfl, by decide, rfl, Or.inr (Or.inl ⟨rfl, rfl⟩), by decide, by decide, z_Ta, by decide⟩
theorem y_Ta_length : Cond.instanceMethod ⟨R_Ta, "length", "()I"⟩ ∈ lw_tbl ∧ Cond.selects R_Ta ⟨R_Ta, "length", "()I"⟩ ⟨R_Ta, "length", "()I"⟩ ∈ lw_tbl := ⟨List.mem_of_getElem? (i := 494) (by decide +kernel), List.mem_of_getElem? (i := 495) (by decide +kernel)⟩
set_option maxRecDepth 100000 in
theorem o_Ta_empty : c_mok D_Ta_empty := ⟨k_Ta_empty, List.mem_of_getElem? (i := 973) rfl, by decide, rfl, Or.inl ⟨rfl, rfl⟩, by decide, by decide, z_Ta, by decide⟩
theorem y_Ta_empty : Cond.instanceMethod ⟨R_Ta, "empty", "()V"⟩ ∈ lw_tbl ∧ Cond.selects R_Ta ⟨R_Ta, "empty", "()V"⟩ ⟨R_Ta, "empty", "()V"⟩ ∈ lw_tbl := ⟨List.mem_of_getElem? (i := 971) (by decide +kernel), List.mem_of_getElem? (i := 972) (by decide +kernel)⟩
set_option maxRecDepth 100000 in
theorem o_Ta_signAt : c_mok D_Ta_signAt := ⟨k_Ta_signAt, List.mem_of_getElem? (i := 528) rfl, by decide, rfl, Or.inr (Or.inl ⟨rfl, rfl⟩), by decide, by decide, z_Ta, by decide⟩
theorem y_Ta_signAt : Cond.instanceMethod ⟨R_Ta, "signAt", "(I)I"⟩ ∈ lw_tbl ∧ Cond.selects R_Ta ⟨R_Ta, "signAt", "(I)I"⟩ ⟨R_Ta, "signAt", "(I)I"⟩ ∈ lw_tbl := ⟨List.mem_of_getElem? (i := 526) (by decide +kernel), List.mem_of_getElem? (i := 527) (by decide +kernel)⟩
set_option maxRecDepth 100000 in
theorem o_Ta_token : c_mok D_Ta_token := ⟨k_Ta_token, List.mem_of_getElem? (i := 572) rfl, by decide, rfl, Or.inr (Or.inl ⟨rfl, rfl⟩), by decide, by decide, z_Ta, by decide⟩
theorem y_Ta_token : Cond.instanceMethod ⟨R_Ta, "token", "()I"⟩ ∈ lw_tbl ∧ Cond.selects R_Ta ⟨R_Ta, "token", "()I"⟩ ⟨R_Ta, "token", "()I"⟩ ∈ lw_tbl := ⟨List.mem_of_getElem? (i := 570) (by decide +kernel), List.mem_of_getElem? (i := 571) (by decide +kernel)⟩
set_option maxRecDepth 100000 in
theorem o_Ta_place : c_mok D_Ta_place := ⟨k_Ta_place, List.mem_of_getElem? (i := 564) rfl, by decide, rfl, Or.inr (Or.inl ⟨rfl, rfl⟩), by decide, by decide, z_Ta, by decide⟩
theorem y_Ta_place : Cond.instanceMethod ⟨R_Ta, "place", "()I"⟩ ∈ lw_tbl ∧ Cond.selects R_Ta ⟨R_Ta, "place", "()I"⟩ ⟨R_Ta, "place", "()I"⟩ ∈ lw_tbl := ⟨List.mem_of_getElem? (i := 562) (by decide +kernel), List.mem_of_getElem? (i := 563) (by decide +kernel)⟩
set_option maxRecDepth 100000 in
theorem o_Ta_wordLength : c_mok D_Ta_wordLength := ⟨k_Ta_wordLength, List.mem_of_getElem? (i := 568) rfl, by decide, rfl, Or.inr (Or.inl ⟨rfl, rfl⟩), by decide, by decide, z_Ta, by decide⟩
theorem y_Ta_wordLength : Cond.instanceMethod ⟨R_Ta, "wordLength", "()I"⟩ ∈ lw_tbl ∧ Cond.selects R_Ta ⟨R_Ta, "wordLength", "()I"⟩ ⟨R_Ta, "wordLength", "()I"⟩ ∈ lw_tbl := ⟨List.mem_of_getElem? (i := 566) (by decide +kernel), List.mem_of_getElem? (i := 567) (by decide +kernel)⟩
set_option maxRecDepth 100000 in
theorem o_Ta_atEnd : c_mok D_Ta_atEnd := ⟨k_Ta_atEnd, List.mem_of_getElem? (i := 548) rfl, by decide, rfl, Or.inr (Or.inr ⟨rfl, rfl⟩), by decide, by decide, z_Ta, by decide⟩
theorem y_Ta_atEnd : Cond.instanceMethod ⟨R_Ta, "atEnd", "()Z"⟩ ∈ lw_tbl ∧ Cond.selects R_Ta ⟨R_Ta, "atEnd", "()Z"⟩ ⟨R_Ta, "atEnd", "()Z"⟩ ∈ lw_tbl := ⟨List.mem_of_getElem? (i := 546) (by decide +kernel), List.mem_of_getElem? (i := 547) (by decide +kernel)⟩
set_option maxRecDepth 100000 in
theorem o_Ta_rewind : c_mok D_Ta_rewind := ⟨k_Ta_rewind, List.mem_of_getElem? (i := 520) rfl, by decide, rfl, Or.inl ⟨rfl, rfl⟩, by decide, by decide, z_Ta, by decide⟩
theorem y_Ta_rewind : Cond.instanceMethod ⟨R_Ta, "rewind", "()V"⟩ ∈ lw_tbl ∧ Cond.selects R_Ta ⟨R_Ta, "rewind", "()V"⟩ ⟨R_Ta, "rewind", "()V"⟩ ∈ lw_tbl := ⟨List.mem_of_getElem? (i := 518) (by decide +kernel), List.mem_of_getElem? (i := 519) (by decide +kernel)⟩
set_option maxRecDepth 100000 in
theorem o_Ta_advance : c_mok D_Ta_advance := ⟨k_Ta_advance, List.mem_of_getElem? (i := 524) rfl, by decide, rfl, Or.inl ⟨rfl, rfl⟩, by decide, by decide, z_Ta, by decide⟩
theorem y_Ta_advance : Cond.instanceMethod ⟨R_Ta, "advance", "()V"⟩ ∈ lw_tbl ∧ Cond.selects R_Ta ⟨R_Ta, "advance", "()V"⟩ ⟨R_Ta, "advance", "()V"⟩ ∈ lw_tbl := ⟨List.mem_of_getElem? (i := 522) (by decide +kernel), List.mem_of_getElem? (i := 523) (by decide +kernel)⟩
set_option maxRecDepth 100000 in
theorem o_Ta_readWord : c_mok D_Ta_readWord := ⟨k_Ta_readWord, List.mem_of_getElem? (i := 538) rfl, by decide, rfl, Or.inl ⟨rfl, rfl⟩, by decide, by decide, z_Ta, by decide⟩
theorem y_Ta_readWord : Cond.instanceMethod ⟨R_Ta, "readWord", "()V"⟩ ∈ lw_tbl ∧ Cond.selects R_Ta ⟨R_Ta, "readWord", "()V"⟩ ⟨R_Ta, "readWord", "()V"⟩ ∈ lw_tbl := ⟨List.mem_of_getElem? (i := 537) (by decide +kernel), List.mem_of_getElem? (i := 1) (by decide +kernel)⟩
set_option maxRecDepth 100000 in
theorem o_Ta_sameSigns : c_mok D_Ta_sameSigns := ⟨k_Ta_sameSigns, List.mem_of_getElem? (i := 672) rfl, by decide, rfl, Or.inr (Or.inr ⟨rfl, rfl⟩), by decide, by decide, z_Ta, by decide⟩
theorem y_Ta_sameSigns : Cond.instanceMethod ⟨R_Ta, "sameSigns", "(III)Z"⟩ ∈ lw_tbl ∧ Cond.selects R_Ta ⟨R_Ta, "sameSigns", "(III)Z"⟩ ⟨R_Ta, "sameSigns", "(III)Z"⟩ ∈ lw_tbl := ⟨List.mem_of_getElem? (i := 670) (by decide +kernel), List.mem_of_getElem? (i := 671) (by decide +kernel)⟩
set_option maxRecDepth 100000 in
theorem o_Ta_isBlank : c_mok D_Ta_isBlank := ⟨k_Ta_isBlank, List.mem_of_getElem? (i := 531) rfl, by decide, rfl, Or.inr (Or.inr ⟨rfl, rfl⟩), by decide, by decide, z_Ta, by decide⟩
theorem y_Ta_isBlank : Cond.static ⟨R_Ta, "isBlank", "(I)Z"⟩ ∈ lw_tbl := List.mem_of_getElem? (i := 530) (by decide +kernel)
set_option maxRecDepth 100000 in
theorem o_Ta_isMark : c_mok D_Ta_isMark := ⟨k_Ta_isMark, List.mem_of_getElem? (i := 544) rfl, by decide, rfl, Or.inr (Or.inr ⟨rfl, rfl⟩), by decide, by decide, z_Ta, by decide⟩
theorem y_Ta_isMark : Cond.static ⟨R_Ta, "isMark", "(I)Z"⟩ ∈ lw_tbl := List.mem_of_getElem? (i := 543) (by decide +kernel)
set_option maxRecDepth 100000 in
theorem o_Wr_write : c_mok D_Wr_write := ⟨k_Wr_write, List.mem_of_getElem? (i := 997) rfl, by decide, rfl, Or.inl ⟨rfl, rfl⟩, by decide, by decide, z_Wr, by decide⟩
theorem y_Wr_write : Cond.instanceMethod ⟨R_Wr, "write", "(IZ)V"⟩ ∈ lw_tbl ∧ Cond.selects R_Wr ⟨R_Wr, "write", "(IZ)V"⟩ ⟨R_Wr, "write", "(IZ)V"⟩ ∈ lw_tbl := ⟨List.mem_of_getElem? (i := 995) (by decide +kernel), List.mem_of_getElem? (i := 996) (by decide +kernel)⟩
set_option maxRecDepth 100000 in
theorem o_Wr_family : c_mok D_Wr_family := ⟨k_Wr_family, List.mem_of_getElem? (i := 1018) rfl, by decide, rfl, Or.inl ⟨rfl, rfl⟩, by decide, by decide, z_Wr, by decide⟩
theorem y_Wr_family : Cond.instanceMethod ⟨R_Wr, "family", "(IIII)V"⟩ ∈ lw_tbl ∧ Cond.selects R_Wr ⟨R_Wr, "family", "(IIII)V"⟩ ⟨R_Wr, "family", "(IIII)V"⟩ ∈ lw_tbl := ⟨List.mem_of_getElem? (i := 1017) (by decide +kernel), List.mem_of_getElem? (i := 36) (by decide +kernel)⟩
set_option maxRecDepth 100000 in
theorem o_Wr_binding : c_mok D_Wr_binding := ⟨k_Wr_binding, List.mem_of_getElem? (i := 1034) rfl, by decide, rfl, Or.inl ⟨rfl, rfl⟩, by decide, by decide, z_Wr, by decide⟩
theorem y_Wr_binding : Cond.instanceMethod ⟨R_Wr, "binding", "(IIII)V"⟩ ∈ lw_tbl ∧ Cond.selects R_Wr ⟨R_Wr, "binding", "(IIII)V"⟩ ⟨R_Wr, "binding", "(IIII)V"⟩ ∈ lw_tbl := ⟨List.mem_of_getElem? (i := 1033) (by decide +kernel), List.mem_of_getElem? (i := 37) (by decide +kernel)⟩
set_option maxRecDepth 100000 in
theorem o_Wr_object : c_mok D_Wr_object := ⟨k_Wr_object, List.mem_of_getElem? (i := 1062) rfl, by decide, rfl, Or.inl ⟨rfl, rfl⟩, by decide, by decide, z_Wr, by decide⟩
theorem y_Wr_object : Cond.instanceMethod ⟨R_Wr, "object", "(IIIIIZ)V"⟩ ∈ lw_tbl ∧ Cond.selects R_Wr ⟨R_Wr, "object", "(IIIIIZ)V"⟩ ⟨R_Wr, "object", "(IIIIIZ)V"⟩ ∈ lw_tbl := ⟨List.mem_of_getElem? (i := 1061) (by decide +kernel), List.mem_of_getElem? (i := 41) (by decide +kernel)⟩
set_option maxRecDepth 100000 in
theorem o_Wr_putHead : c_mok D_Wr_putHead := ⟨k_Wr_putHead, List.mem_of_getElem? (i := 1072) rfl, by decide, rfl, Or.inl ⟨rfl, rfl⟩, by decide, by decide, z_Wr, by decide⟩
theorem y_Wr_putHead : Cond.instanceMethod ⟨R_Wr, "putHead", "(I)V"⟩ ∈ lw_tbl ∧ Cond.selects R_Wr ⟨R_Wr, "putHead", "(I)V"⟩ ⟨R_Wr, "putHead", "(I)V"⟩ ∈ lw_tbl := ⟨List.mem_of_getElem? (i := 1071) (by decide +kernel), List.mem_of_getElem? (i := 42) (by decide +kernel)⟩
set_option maxRecDepth 100000 in
theorem o_Wr_objects : c_mok D_Wr_objects := ⟨k_Wr_objects, List.mem_of_getElem? (i := 1055) rfl, by decide, rfl, Or.inl ⟨rfl, rfl⟩, by decide, by decide, z_Wr, by decide⟩
theorem y_Wr_objects : Cond.instanceMethod ⟨R_Wr, "objects", "(IIIII)V"⟩ ∈ lw_tbl ∧ Cond.selects R_Wr ⟨R_Wr, "objects", "(IIIII)V"⟩ ⟨R_Wr, "objects", "(IIIII)V"⟩ ∈ lw_tbl := ⟨List.mem_of_getElem? (i := 1054) (by decide +kernel), List.mem_of_getElem? (i := 40) (by decide +kernel)⟩
set_option maxRecDepth 100000 in
theorem o_Wr_putName : c_mok D_Wr_putName := ⟨k_Wr_putName, List.mem_of_getElem? (i := 1047) rfl, by decide, rfl, Or.inl ⟨rfl, rfl⟩, by decide, by decide, z_Wr, by decide⟩
theorem y_Wr_putName : Cond.instanceMethod ⟨R_Wr, "putName", "(I)V"⟩ ∈ lw_tbl ∧ Cond.selects R_Wr ⟨R_Wr, "putName", "(I)V"⟩ ⟨R_Wr, "putName", "(I)V"⟩ ∈ lw_tbl := ⟨List.mem_of_getElem? (i := 1046) (by decide +kernel), List.mem_of_getElem? (i := 39) (by decide +kernel)⟩
set_option maxRecDepth 100000 in
theorem o_Wr_putVariable : c_mok D_Wr_putVariable := ⟨k_Wr_putVariable, List.mem_of_getElem? (i := 1039) rfl, by decide, rfl, Or.inl ⟨rfl, rfl⟩, by decide, by decide, z_Wr, by decide⟩
theorem y_Wr_putVariable : Cond.instanceMethod ⟨R_Wr, "putVariable", "(I)V"⟩ ∈ lw_tbl ∧ Cond.selects R_Wr ⟨R_Wr, "putVariable", "(I)V"⟩ ⟨R_Wr, "putVariable", "(I)V"⟩ ∈ lw_tbl := ⟨List.mem_of_getElem? (i := 1038) (by decide +kernel), List.mem_of_getElem? (i := 38) (by decide +kernel)⟩
