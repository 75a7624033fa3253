def d_M : List c_M0 := [D_Fb_feed, D_Fb_declare, D_Fb_canon, D_Fb_type, D_Fb_equal, D_Fb_named, D_Fb_constant, D_Fb_size, D_Fb_out, D_Fb_forget, D_Fb_count, D_Fb_begin, D_Fb_writtenForm, D_Fb_comparison, D_Fb_troubleAtEnd, D_Fb_faultAt, D_Fb_isLetter, D_Fb_isDigit, D_Rm_feed, D_Rm_lay, D_Rm_isLetter, D_Rm_isDigit, D_Rm_rank, D_Rm_isSignOf, D_Rm_cutAll, D_Rm_wrong, D_Rm_isSign, D_Rm_isType, D_Rm_isName, D_Rm_takeSign, D_Rm_node, D_Rm_typeNode, D_Rm_within, D_Rm_counts, D_Rm_readWhole, D_Rm_isP, D_Rm_readE, D_Rm_readBinder, D_Rm_readA, D_Rm_readP, D_Rm_constantOf, D_Rm_closure, D_Rm_list, D_Rm_behind, D_Rm_newVar, D_Rm_step, D_Rm_stepAt, D_Rm_begins, D_Rm_shows, D_Rm_shown, D_Rm_without, D_Rm_heads, D_Rm_manyBehind, D_Rm_asks, D_Rm_sameFamilies, D_Rm_sameAsked, D_Rm_behindOf, D_Rm_sameSpines, D_Rm_sameBehind, D_Rm_append, D_Rm_sameObjects, D_Rm_sameObjectsAsked, D_Rm_equalFamilies, D_Rm_wanted, D_Rm_bind, D_Rm_unbind, D_Rm_find, D_Rm_isFamilyNode, D_Rm_family, D_Rm_familyBehind, D_Rm_is, D_Rm_object, D_Rm_name, D_Rm_lambda, D_Rm_objectBehind, D_Rm_oneBehind, D_Rm_declare, D_Rm_declaration, D_Rm_say, D_Rm_signOf, D_Rm_sayPart, D_Rm_sayVar, D_Rm_countXs, D_Rm_isXs, D_Rm_takeLetters, D_Rm_ended, D_Rm_tellFamily, D_Rm_tellBehind, D_Rm_tellObject, D_Rm_tellLambda, D_Rm_tellHead, D_Rm_askOne, D_Rm_tell, D_Rm_canon, D_Rm_type, D_Rm_equal, D_Rm_named, D_Rm_constant, D_Rm_size, D_Rm_out, D_Rm_forget, D_Rm_count, D_Ce_mark, D_Ce_release, D_Ce_make, D_Ce_term, D_Ce_scope, D_Ce_next, D_Ce_binder, D_Ce_link, D_Ce_bind, D_Ce_newVariable, D_Ce_numberOf, D_Ce_enter, D_Ce_append, D_Ce_outward, D_Ck_sort, D_Ck_faultOfDeclaration, D_Ck_faultOfObject, D_Ck_wrong, D_Ck_step, D_Ck_classifier, D_Ck_under, D_Ck_family, D_Ck_isFamilyName, D_Ck_objectsOfFamily, D_Ck_fitting, D_Ck_object, D_Ck_bareObject, D_Ck_applied, D_Co_number, D_Co_full, D_Co_sort, D_Co_typeRoot, D_Co_bodyRoot, D_Co_wanted, D_Co_nameLength, D_Co_nameSign, D_Co_name, D_Co_add, D_Co_drop, D_Co_find, D_Co_isNamed, D_Co_fewestXs, D_Co_anyIsXsAndNumber, D_Co_isXsAndNumber, D_Ju_sameObjects, D_Ju_families, D_Ju_rows, D_Ju_meet, D_Ju_sameLength, D_Ma_shape, D_Ma_shapeScope, D_Ma_head, D_Ma_row, D_Ma_headType, D_Ma_headTypeScope, D_Ma_push, D_Ma_expose, D_Ma_headForm, D_Ma_isDefinition, D_Me_begin, D_Me_stepsInAll, D_Me_stepsOfLatest, D_Me_trouble, D_Me_stop, D_Me_step, D_Me_question, D_No_mark, D_No_release, D_No_full, D_No_make, D_No_kind, D_No_left, D_No_right, D_No_sibling, D_No_token, D_No_first, D_No_place, D_No_inBrackets, D_No_isArrow, D_No_setPlace, D_No_setSibling, D_No_becomeFamily, D_Pa_length, D_Pa_signAt, D_Pa_beginDraft, D_Pa_put, D_Pa_keepDraft, D_Re_begin, D_Re_fault, D_Re_namePlace, D_Re_nameLength, D_Re_typeRoot, D_Re_bodyRoot, D_Re_faultOfDeclaration, D_Re_expressionBefore, D_Re_readNewName, D_Re_take, D_Re_refuse, D_Re_wholeExpression, D_Re_expression, D_Re_binding, D_Re_arrow, D_Re_application, D_Re_part, D_Re_startsPart, D_Re_countPart, D_Re_nameNode, D_Re_node, D_Re_enterScope, D_Re_leaveScope, D_Ta_append, D_Ta_length, D_Ta_empty, D_Ta_signAt, D_Ta_token, D_Ta_place, D_Ta_wordLength, D_Ta_atEnd, D_Ta_rewind, D_Ta_advance, D_Ta_readWord, D_Ta_sameSigns, D_Ta_isBlank, D_Ta_isMark, D_Wr_write, D_Wr_family, D_Wr_binding, D_Wr_object, D_Wr_putHead, D_Wr_objects, D_Wr_putName, D_Wr_putVariable]
def ck_ml (q : Nat × Nat × Nat × Nat × Nat × Nat × Nat × Nat) : Bool := match q with
  | (own, i, t, nest, stat, n, u, w) => match c_nth d_M t with
    | none => false
    | some (_, _, rb, ow, y, _, mx, _) => decide (y.cls = d_nm ow) && decide (y.cls ≠ "java/lang/invoke/MethodHandle" ∧ y.cls ≠ "java/lang/invoke/VarHandle") && decide (mx ≤ 26) && decide (Cond.initialized y.cls ∈ lw_tbl) && decide (u = if rb = 0 then 0 else 1) && (match nest with
        | 0 => decide (Cond.methodLink (d_nm own) i y ∈ lw_tbl)
        | _ => decide (Cond.methodLinkNest (d_nm own) i y "FrameBench" ∈ lw_tbl)) && (match stat with
        | 0 => decide (Cond.instanceMethod y ∈ lw_tbl) && decide (Cond.selects y.cls y y ∈ lw_tbl) && decide (w = ow) && decide ((parseMethodDescriptor y.desc).map (fun d => d.parameters.length + 1) = some n)
        | _ => decide (Cond.static y ∈ lw_tbl) && (decide (nest ≠ 0) || decide (y.cls = d_nm own)) && decide ((parseMethodDescriptor y.desc).map (fun d => d.parameters.length) = some n))
set_option maxRecDepth 100000 in
theorem k_ml : ∀ q ∈ d_ML, ck_ml q = true := by decide +kernel
/-- what a method's row says -/
def c_mok (q : c_M0) : Prop := (∀ r ∈ q.1, ck_e q.2.2.2.1 q.2.2.2.2.2.1 r = true) ∧ Cond.code q.2.2.2.2.1 q.2.2.2.2.2.1 q.2.2.2.2.2.2.1 q.2.2.2.2.2.2.2 ∈ lw_tbl ∧ plainName q.2.2.2.2.1.cls = true ∧ q.2.2.2.2.1.cls = d_nm q.2.2.2.1 ∧ (q.2.2.1 = 0 ∧ q.2.2.2.2.2.2.2 = none ∨ q.2.2.1 = 1 ∧ q.2.2.2.2.2.2.2 = some .int ∨ q.2.2.1 = 2 ∧ q.2.2.2.2.2.2.2 = some .boolean)
set_option maxRecDepth 100000 in
theorem o_Fb_feed : c_mok D_Fb_feed := ⟨k_Fb_feed, List.mem_of_getElem? (i := 488) rfl, by decide, rfl, Or.inr (Or.inl ⟨rfl, rfl⟩)⟩
set_option maxRecDepth 100000 in
theorem o_Fb_declare : c_mok D_Fb_declare := ⟨k_Fb_declare, List.mem_of_getElem? (i := 501) rfl, by decide, rfl, Or.inr (Or.inl ⟨rfl, rfl⟩)⟩
set_option maxRecDepth 100000 in
theorem o_Fb_canon : c_mok D_Fb_canon := ⟨k_Fb_canon, List.mem_of_getElem? (i := 978) rfl, by decide, rfl, Or.inr (Or.inl ⟨rfl, rfl⟩)⟩
set_option maxRecDepth 100000 in
theorem o_Fb_type : c_mok D_Fb_type := ⟨k_Fb_type, List.mem_of_getElem? (i := 1098) rfl, by decide, rfl, Or.inr (Or.inl ⟨rfl, rfl⟩)⟩
set_option maxRecDepth 100000 in
theorem o_Fb_equal : c_mok D_Fb_equal := ⟨k_Fb_equal, List.mem_of_getElem? (i := 1102) rfl, by decide, rfl, Or.inr (Or.inl ⟨rfl, rfl⟩)⟩
set_option maxRecDepth 100000 in
theorem o_Fb_named : c_mok D_Fb_named := ⟨k_Fb_named, List.mem_of_getElem? (i := 1116) rfl, by decide, rfl, Or.inr (Or.inl ⟨rfl, rfl⟩)⟩
set_option maxRecDepth 100000 in
theorem o_Fb_constant : c_mok D_Fb_constant := ⟨k_Fb_constant, List.mem_of_getElem? (i := 1126) rfl, by decide, rfl, Or.inr (Or.inl ⟨rfl, rfl⟩)⟩
set_option maxRecDepth 100000 in
theorem o_Fb_size : c_mok D_Fb_size := ⟨k_Fb_size, List.mem_of_getElem? (i := 1142) rfl, by decide, rfl, Or.inr (Or.inl ⟨rfl, rfl⟩)⟩
set_option maxRecDepth 100000 in
theorem o_Fb_out : c_mok D_Fb_out := ⟨k_Fb_out, List.mem_of_getElem? (i := 1150) rfl, by decide, rfl, Or.inr (Or.inl ⟨rfl, rfl⟩)⟩
set_option maxRecDepth 100000 in
theorem o_Fb_forget : c_mok D_Fb_forget := ⟨k_Fb_forget, List.mem_of_getElem? (i := 1158) rfl, by decide, rfl, Or.inr (Or.inl ⟨rfl, rfl⟩)⟩
set_option maxRecDepth 100000 in
theorem o_Fb_count : c_mok D_Fb_count := ⟨k_Fb_count, List.mem_of_getElem? (i := 1167) rfl, by decide, rfl, Or.inr (Or.inl ⟨rfl, rfl⟩)⟩
set_option maxRecDepth 100000 in
theorem o_Fb_begin : c_mok D_Fb_begin := ⟨k_Fb_begin, List.mem_of_getElem? (i := 505) rfl, by decide, rfl, Or.inl ⟨rfl, rfl⟩⟩
set_option maxRecDepth 100000 in
theorem o_Fb_writtenForm : c_mok D_Fb_writtenForm := ⟨k_Fb_writtenForm, List.mem_of_getElem? (i := 982) rfl, by decide, rfl, Or.inr (Or.inl ⟨rfl, rfl⟩)⟩
set_option maxRecDepth 100000 in
theorem o_Fb_comparison : c_mok D_Fb_comparison := ⟨k_Fb_comparison, List.mem_of_getElem? (i := 1106) rfl, by decide, rfl, Or.inr (Or.inl ⟨rfl, rfl⟩)⟩
set_option maxRecDepth 100000 in
theorem o_Fb_troubleAtEnd : c_mok D_Fb_troubleAtEnd := ⟨k_Fb_troubleAtEnd, List.mem_of_getElem? (i := 1092) rfl, by decide, rfl, Or.inr (Or.inl ⟨rfl, rfl⟩)⟩
set_option maxRecDepth 100000 in
theorem o_Fb_faultAt : c_mok D_Fb_faultAt := ⟨k_Fb_faultAt, List.mem_of_getElem? (i := 580) rfl, by decide, rfl, Or.inr (Or.inl ⟨rfl, rfl⟩)⟩
set_option maxRecDepth 100000 in
theorem o_Fb_isLetter : c_mok D_Fb_isLetter := ⟨k_Fb_isLetter, List.mem_of_getElem? (i := 535) rfl, by decide, rfl, Or.inr (Or.inr ⟨rfl, rfl⟩)⟩
set_option maxRecDepth 100000 in
theorem o_Fb_isDigit : c_mok D_Fb_isDigit := ⟨k_Fb_isDigit, List.mem_of_getElem? (i := 542) rfl, by decide, rfl, Or.inr (Or.inr ⟨rfl, rfl⟩)⟩
set_option maxRecDepth 100000 in
theorem o_Rm_feed : c_mok D_Rm_feed := ⟨k_Rm_feed, List.mem_of_getElem? (i := 1403) rfl, by decide, rfl, Or.inr (Or.inl ⟨rfl, rfl⟩)⟩
set_option maxRecDepth 100000 in
theorem o_Rm_lay : c_mok D_Rm_lay := ⟨k_Rm_lay, List.mem_of_getElem? (i := 1407) rfl, by decide, rfl, Or.inl ⟨rfl, rfl⟩⟩
set_option maxRecDepth 100000 in
theorem o_Rm_isLetter : c_mok D_Rm_isLetter := ⟨k_Rm_isLetter, List.mem_of_getElem? (i := 1423) rfl, by decide, rfl, Or.inr (Or.inr ⟨rfl, rfl⟩)⟩
set_option maxRecDepth 100000 in
theorem o_Rm_isDigit : c_mok D_Rm_isDigit := ⟨k_Rm_isDigit, List.mem_of_getElem? (i := 1426) rfl, by decide, rfl, Or.inr (Or.inr ⟨rfl, rfl⟩)⟩
set_option maxRecDepth 100000 in
theorem o_Rm_rank : c_mok D_Rm_rank := ⟨k_Rm_rank, List.mem_of_getElem? (i := 1430) rfl, by decide, rfl, Or.inr (Or.inl ⟨rfl, rfl⟩)⟩
set_option maxRecDepth 100000 in
theorem o_Rm_isSignOf : c_mok D_Rm_isSignOf := ⟨k_Rm_isSignOf, List.mem_of_getElem? (i := 1433) rfl, by decide, rfl, Or.inr (Or.inr ⟨rfl, rfl⟩)⟩
set_option maxRecDepth 100000 in
theorem o_Rm_cutAll : c_mok D_Rm_cutAll := ⟨k_Rm_cutAll, List.mem_of_getElem? (i := 1420) rfl, by decide, rfl, Or.inl ⟨rfl, rfl⟩⟩
set_option maxRecDepth 100000 in
theorem o_Rm_wrong : c_mok D_Rm_wrong := ⟨k_Rm_wrong, List.mem_of_getElem? (i := 1446) rfl, by decide, rfl, Or.inl ⟨rfl, rfl⟩⟩
set_option maxRecDepth 100000 in
theorem o_Rm_isSign : c_mok D_Rm_isSign := ⟨k_Rm_isSign, List.mem_of_getElem? (i := 1458) rfl, by decide, rfl, Or.inr (Or.inr ⟨rfl, rfl⟩)⟩
set_option maxRecDepth 100000 in
theorem o_Rm_isType : c_mok D_Rm_isType := ⟨k_Rm_isType, List.mem_of_getElem? (i := 1498) rfl, by decide, rfl, Or.inr (Or.inr ⟨rfl, rfl⟩)⟩
set_option maxRecDepth 100000 in
theorem o_Rm_isName : c_mok D_Rm_isName := ⟨k_Rm_isName, List.mem_of_getElem? (i := 1441) rfl, by decide, rfl, Or.inr (Or.inr ⟨rfl, rfl⟩)⟩
set_option maxRecDepth 100000 in
theorem o_Rm_takeSign : c_mok D_Rm_takeSign := ⟨k_Rm_takeSign, List.mem_of_getElem? (i := 1454) rfl, by decide, rfl, Or.inl ⟨rfl, rfl⟩⟩
set_option maxRecDepth 100000 in
theorem o_Rm_node : c_mok D_Rm_node := ⟨k_Rm_node, List.mem_of_getElem? (i := 1486) rfl, by decide, rfl, Or.inr (Or.inl ⟨rfl, rfl⟩)⟩
set_option maxRecDepth 100000 in
theorem o_Rm_typeNode : c_mok D_Rm_typeNode := ⟨k_Rm_typeNode, List.mem_of_getElem? (i := 1567) rfl, by decide, rfl, Or.inr (Or.inl ⟨rfl, rfl⟩)⟩
set_option maxRecDepth 100000 in
theorem o_Rm_within : c_mok D_Rm_within := ⟨k_Rm_within, List.mem_of_getElem? (i := 1474) rfl, by decide, rfl, Or.inl ⟨rfl, rfl⟩⟩
set_option maxRecDepth 100000 in
theorem o_Rm_counts : c_mok D_Rm_counts := ⟨k_Rm_counts, List.mem_of_getElem? (i := 1482) rfl, by decide, rfl, Or.inl ⟨rfl, rfl⟩⟩
set_option maxRecDepth 100000 in
theorem o_Rm_readWhole : c_mok D_Rm_readWhole := ⟨k_Rm_readWhole, List.mem_of_getElem? (i := 1462) rfl, by decide, rfl, Or.inr (Or.inl ⟨rfl, rfl⟩)⟩
set_option maxRecDepth 100000 in
theorem o_Rm_isP : c_mok D_Rm_isP := ⟨k_Rm_isP, List.mem_of_getElem? (i := 1470) rfl, by decide, rfl, Or.inr (Or.inr ⟨rfl, rfl⟩)⟩
set_option maxRecDepth 100000 in
theorem o_Rm_readE : c_mok D_Rm_readE := ⟨k_Rm_readE, List.mem_of_getElem? (i := 1466) rfl, by decide, rfl, Or.inr (Or.inl ⟨rfl, rfl⟩)⟩
set_option maxRecDepth 100000 in
theorem o_Rm_readBinder : c_mok D_Rm_readBinder := ⟨k_Rm_readBinder, List.mem_of_getElem? (i := 1478) rfl, by decide, rfl, Or.inr (Or.inl ⟨rfl, rfl⟩)⟩
set_option maxRecDepth 100000 in
theorem o_Rm_readA : c_mok D_Rm_readA := ⟨k_Rm_readA, List.mem_of_getElem? (i := 1490) rfl, by decide, rfl, Or.inr (Or.inl ⟨rfl, rfl⟩)⟩
set_option maxRecDepth 100000 in
theorem o_Rm_readP : c_mok D_Rm_readP := ⟨k_Rm_readP, List.mem_of_getElem? (i := 1494) rfl, by decide, rfl, Or.inr (Or.inl ⟨rfl, rfl⟩)⟩
set_option maxRecDepth 100000 in
theorem o_Rm_constantOf : c_mok D_Rm_constantOf := ⟨k_Rm_constantOf, List.mem_of_getElem? (i := 1450) rfl, by decide, rfl, Or.inr (Or.inl ⟨rfl, rfl⟩)⟩
set_option maxRecDepth 100000 in
theorem o_Rm_closure : c_mok D_Rm_closure := ⟨k_Rm_closure, List.mem_of_getElem? (i := 1523) rfl, by decide, rfl, Or.inr (Or.inl ⟨rfl, rfl⟩)⟩
set_option maxRecDepth 100000 in
theorem o_Rm_list : c_mok D_Rm_list := ⟨k_Rm_list, List.mem_of_getElem? (i := 1527) rfl, by decide, rfl, Or.inr (Or.inl ⟨rfl, rfl⟩)⟩
set_option maxRecDepth 100000 in
theorem o_Rm_behind : c_mok D_Rm_behind := ⟨k_Rm_behind, List.mem_of_getElem? (i := 1611) rfl, by decide, rfl, Or.inr (Or.inl ⟨rfl, rfl⟩)⟩
set_option maxRecDepth 100000 in
theorem o_Rm_newVar : c_mok D_Rm_newVar := ⟨k_Rm_newVar, List.mem_of_getElem? (i := 1519) rfl, by decide, rfl, Or.inr (Or.inl ⟨rfl, rfl⟩)⟩
set_option maxRecDepth 100000 in
theorem o_Rm_step : c_mok D_Rm_step := ⟨k_Rm_step, List.mem_of_getElem? (i := 1510) rfl, by decide, rfl, Or.inr (Or.inr ⟨rfl, rfl⟩)⟩
set_option maxRecDepth 100000 in
theorem o_Rm_stepAt : c_mok D_Rm_stepAt := ⟨k_Rm_stepAt, List.mem_of_getElem? (i := 1506) rfl, by decide, rfl, Or.inl ⟨rfl, rfl⟩⟩
set_option maxRecDepth 100000 in
theorem o_Rm_begins : c_mok D_Rm_begins := ⟨k_Rm_begins, List.mem_of_getElem? (i := 1415) rfl, by decide, rfl, Or.inl ⟨rfl, rfl⟩⟩
set_option maxRecDepth 100000 in
theorem o_Rm_shows : c_mok D_Rm_shows := ⟨k_Rm_shows, List.mem_of_getElem? (i := 1547) rfl, by decide, rfl, Or.inr (Or.inr ⟨rfl, rfl⟩)⟩
set_option maxRecDepth 100000 in
theorem o_Rm_shown : c_mok D_Rm_shown := ⟨k_Rm_shown, List.mem_of_getElem? (i := 1555) rfl, by decide, rfl, Or.inr (Or.inr ⟨rfl, rfl⟩)⟩
set_option maxRecDepth 100000 in
theorem o_Rm_without : c_mok D_Rm_without := ⟨k_Rm_without, List.mem_of_getElem? (i := 1551) rfl, by decide, rfl, Or.inr (Or.inl ⟨rfl, rfl⟩)⟩
set_option maxRecDepth 100000 in
theorem o_Rm_heads : c_mok D_Rm_heads := ⟨k_Rm_heads, List.mem_of_getElem? (i := 1631) rfl, by decide, rfl, Or.inr (Or.inl ⟨rfl, rfl⟩)⟩
set_option maxRecDepth 100000 in
theorem o_Rm_manyBehind : c_mok D_Rm_manyBehind := ⟨k_Rm_manyBehind, List.mem_of_getElem? (i := 1635) rfl, by decide, rfl, Or.inr (Or.inl ⟨rfl, rfl⟩)⟩
set_option maxRecDepth 100000 in
theorem o_Rm_asks : c_mok D_Rm_asks := ⟨k_Rm_asks, List.mem_of_getElem? (i := 1595) rfl, by decide, rfl, Or.inr (Or.inl ⟨rfl, rfl⟩)⟩
set_option maxRecDepth 100000 in
theorem o_Rm_sameFamilies : c_mok D_Rm_sameFamilies := ⟨k_Rm_sameFamilies, List.mem_of_getElem? (i := 1591) rfl, by decide, rfl, Or.inr (Or.inl ⟨rfl, rfl⟩)⟩
set_option maxRecDepth 100000 in
theorem o_Rm_sameAsked : c_mok D_Rm_sameAsked := ⟨k_Rm_sameAsked, List.mem_of_getElem? (i := 1599) rfl, by decide, rfl, Or.inr (Or.inl ⟨rfl, rfl⟩)⟩
set_option maxRecDepth 100000 in
theorem o_Rm_behindOf : c_mok D_Rm_behindOf := ⟨k_Rm_behindOf, List.mem_of_getElem? (i := 1607) rfl, by decide, rfl, Or.inr (Or.inl ⟨rfl, rfl⟩)⟩
set_option maxRecDepth 100000 in
theorem o_Rm_sameSpines : c_mok D_Rm_sameSpines := ⟨k_Rm_sameSpines, List.mem_of_getElem? (i := 1603) rfl, by decide, rfl, Or.inr (Or.inl ⟨rfl, rfl⟩)⟩
set_option maxRecDepth 100000 in
theorem o_Rm_sameBehind : c_mok D_Rm_sameBehind := ⟨k_Rm_sameBehind, List.mem_of_getElem? (i := 1615) rfl, by decide, rfl, Or.inr (Or.inl ⟨rfl, rfl⟩)⟩
set_option maxRecDepth 100000 in
theorem o_Rm_append : c_mok D_Rm_append := ⟨k_Rm_append, List.mem_of_getElem? (i := 1627) rfl, by decide, rfl, Or.inr (Or.inl ⟨rfl, rfl⟩)⟩
set_option maxRecDepth 100000 in
theorem o_Rm_sameObjects : c_mok D_Rm_sameObjects := ⟨k_Rm_sameObjects, List.mem_of_getElem? (i := 1619) rfl, by decide, rfl, Or.inr (Or.inl ⟨rfl, rfl⟩)⟩
set_option maxRecDepth 100000 in
theorem o_Rm_sameObjectsAsked : c_mok D_Rm_sameObjectsAsked := ⟨k_Rm_sameObjectsAsked, List.mem_of_getElem? (i := 1623) rfl, by decide, rfl, Or.inr (Or.inl ⟨rfl, rfl⟩)⟩
set_option maxRecDepth 100000 in
theorem o_Rm_equalFamilies : c_mok D_Rm_equalFamilies := ⟨k_Rm_equalFamilies, List.mem_of_getElem? (i := 1587) rfl, by decide, rfl, Or.inr (Or.inl ⟨rfl, rfl⟩)⟩
set_option maxRecDepth 100000 in
theorem o_Rm_wanted : c_mok D_Rm_wanted := ⟨k_Rm_wanted, List.mem_of_getElem? (i := 1583) rfl, by decide, rfl, Or.inl ⟨rfl, rfl⟩⟩
set_option maxRecDepth 100000 in
theorem o_Rm_bind : c_mok D_Rm_bind := ⟨k_Rm_bind, List.mem_of_getElem? (i := 1515) rfl, by decide, rfl, Or.inl ⟨rfl, rfl⟩⟩
set_option maxRecDepth 100000 in
theorem o_Rm_unbind : c_mok D_Rm_unbind := ⟨k_Rm_unbind, List.mem_of_getElem? (i := 1531) rfl, by decide, rfl, Or.inl ⟨rfl, rfl⟩⟩
set_option maxRecDepth 100000 in
theorem o_Rm_find : c_mok D_Rm_find := ⟨k_Rm_find, List.mem_of_getElem? (i := 1539) rfl, by decide, rfl, Or.inl ⟨rfl, rfl⟩⟩
set_option maxRecDepth 100000 in
theorem o_Rm_isFamilyNode : c_mok D_Rm_isFamilyNode := ⟨k_Rm_isFamilyNode, List.mem_of_getElem? (i := 1543) rfl, by decide, rfl, Or.inr (Or.inr ⟨rfl, rfl⟩)⟩
set_option maxRecDepth 100000 in
theorem o_Rm_family : c_mok D_Rm_family := ⟨k_Rm_family, List.mem_of_getElem? (i := 1502) rfl, by decide, rfl, Or.inl ⟨rfl, rfl⟩⟩
set_option maxRecDepth 100000 in
theorem o_Rm_familyBehind : c_mok D_Rm_familyBehind := ⟨k_Rm_familyBehind, List.mem_of_getElem? (i := 1535) rfl, by decide, rfl, Or.inl ⟨rfl, rfl⟩⟩
set_option maxRecDepth 100000 in
theorem o_Rm_is : c_mok D_Rm_is := ⟨k_Rm_is, List.mem_of_getElem? (i := 1571) rfl, by decide, rfl, Or.inl ⟨rfl, rfl⟩⟩
set_option maxRecDepth 100000 in
theorem o_Rm_object : c_mok D_Rm_object := ⟨k_Rm_object, List.mem_of_getElem? (i := 1559) rfl, by decide, rfl, Or.inl ⟨rfl, rfl⟩⟩
set_option maxRecDepth 100000 in
theorem o_Rm_name : c_mok D_Rm_name := ⟨k_Rm_name, List.mem_of_getElem? (i := 1639) rfl, by decide, rfl, Or.inl ⟨rfl, rfl⟩⟩
set_option maxRecDepth 100000 in
theorem o_Rm_lambda : c_mok D_Rm_lambda := ⟨k_Rm_lambda, List.mem_of_getElem? (i := 1563) rfl, by decide, rfl, Or.inl ⟨rfl, rfl⟩⟩
set_option maxRecDepth 100000 in
theorem o_Rm_objectBehind : c_mok D_Rm_objectBehind := ⟨k_Rm_objectBehind, List.mem_of_getElem? (i := 1575) rfl, by decide, rfl, Or.inl ⟨rfl, rfl⟩⟩
set_option maxRecDepth 100000 in
theorem o_Rm_oneBehind : c_mok D_Rm_oneBehind := ⟨k_Rm_oneBehind, List.mem_of_getElem? (i := 1579) rfl, by decide, rfl, Or.inl ⟨rfl, rfl⟩⟩
set_option maxRecDepth 100000 in
theorem o_Rm_declare : c_mok D_Rm_declare := ⟨k_Rm_declare, List.mem_of_getElem? (i := 1411) rfl, by decide, rfl, Or.inr (Or.inl ⟨rfl, rfl⟩)⟩
set_option maxRecDepth 100000 in
theorem o_Rm_declaration : c_mok D_Rm_declaration := ⟨k_Rm_declaration, List.mem_of_getElem? (i := 1437) rfl, by decide, rfl, Or.inl ⟨rfl, rfl⟩⟩
set_option maxRecDepth 100000 in
theorem o_Rm_say : c_mok D_Rm_say := ⟨k_Rm_say, List.mem_of_getElem? (i := 1671) rfl, by decide, rfl, Or.inl ⟨rfl, rfl⟩⟩
set_option maxRecDepth 100000 in
theorem o_Rm_signOf : c_mok D_Rm_signOf := ⟨k_Rm_signOf, List.mem_of_getElem? (i := 1686) rfl, by decide, rfl, Or.inr (Or.inl ⟨rfl, rfl⟩)⟩
set_option maxRecDepth 100000 in
theorem o_Rm_sayPart : c_mok D_Rm_sayPart := ⟨k_Rm_sayPart, List.mem_of_getElem? (i := 1683) rfl, by decide, rfl, Or.inl ⟨rfl, rfl⟩⟩
set_option maxRecDepth 100000 in
theorem o_Rm_sayVar : c_mok D_Rm_sayVar := ⟨k_Rm_sayVar, List.mem_of_getElem? (i := 1675) rfl, by decide, rfl, Or.inl ⟨rfl, rfl⟩⟩
set_option maxRecDepth 100000 in
theorem o_Rm_countXs : c_mok D_Rm_countXs := ⟨k_Rm_countXs, List.mem_of_getElem? (i := 1655) rfl, by decide, rfl, Or.inl ⟨rfl, rfl⟩⟩
set_option maxRecDepth 100000 in
theorem o_Rm_isXs : c_mok D_Rm_isXs := ⟨k_Rm_isXs, List.mem_of_getElem? (i := 1659) rfl, by decide, rfl, Or.inr (Or.inr ⟨rfl, rfl⟩)⟩
set_option maxRecDepth 100000 in
theorem o_Rm_takeLetters : c_mok D_Rm_takeLetters := ⟨k_Rm_takeLetters, List.mem_of_getElem? (i := 1663) rfl, by decide, rfl, Or.inl ⟨rfl, rfl⟩⟩
set_option maxRecDepth 100000 in
theorem o_Rm_ended : c_mok D_Rm_ended := ⟨k_Rm_ended, List.mem_of_getElem? (i := 1679) rfl, by decide, rfl, Or.inr (Or.inl ⟨rfl, rfl⟩)⟩
set_option maxRecDepth 100000 in
theorem o_Rm_tellFamily : c_mok D_Rm_tellFamily := ⟨k_Rm_tellFamily, List.mem_of_getElem? (i := 1667) rfl, by decide, rfl, Or.inr (Or.inl ⟨rfl, rfl⟩)⟩
set_option maxRecDepth 100000 in
theorem o_Rm_tellBehind : c_mok D_Rm_tellBehind := ⟨k_Rm_tellBehind, List.mem_of_getElem? (i := 1690) rfl, by decide, rfl, Or.inr (Or.inl ⟨rfl, rfl⟩)⟩
set_option maxRecDepth 100000 in
theorem o_Rm_tellObject : c_mok D_Rm_tellObject := ⟨k_Rm_tellObject, List.mem_of_getElem? (i := 1694) rfl, by decide, rfl, Or.inr (Or.inl ⟨rfl, rfl⟩)⟩
set_option maxRecDepth 100000 in
theorem o_Rm_tellLambda : c_mok D_Rm_tellLambda := ⟨k_Rm_tellLambda, List.mem_of_getElem? (i := 1698) rfl, by decide, rfl, Or.inr (Or.inl ⟨rfl, rfl⟩)⟩
set_option maxRecDepth 100000 in
theorem o_Rm_tellHead : c_mok D_Rm_tellHead := ⟨k_Rm_tellHead, List.mem_of_getElem? (i := 1702) rfl, by decide, rfl, Or.inr (Or.inl ⟨rfl, rfl⟩)⟩
set_option maxRecDepth 100000 in
theorem o_Rm_askOne : c_mok D_Rm_askOne := ⟨k_Rm_askOne, List.mem_of_getElem? (i := 1651) rfl, by decide, rfl, Or.inr (Or.inl ⟨rfl, rfl⟩)⟩
set_option maxRecDepth 100000 in
theorem o_Rm_tell : c_mok D_Rm_tell := ⟨k_Rm_tell, List.mem_of_getElem? (i := 1647) rfl, by decide, rfl, Or.inr (Or.inl ⟨rfl, rfl⟩)⟩
set_option maxRecDepth 100000 in
theorem o_Rm_canon : c_mok D_Rm_canon := ⟨k_Rm_canon, List.mem_of_getElem? (i := 1643) rfl, by decide, rfl, Or.inr (Or.inl ⟨rfl, rfl⟩)⟩
set_option maxRecDepth 100000 in
theorem o_Rm_type : c_mok D_Rm_type := ⟨k_Rm_type, List.mem_of_getElem? (i := 1706) rfl, by decide, rfl, Or.inr (Or.inl ⟨rfl, rfl⟩)⟩
set_option maxRecDepth 100000 in
theorem o_Rm_equal : c_mok D_Rm_equal := ⟨k_Rm_equal, List.mem_of_getElem? (i := 1710) rfl, by decide, rfl, Or.inr (Or.inl ⟨rfl, rfl⟩)⟩
set_option maxRecDepth 100000 in
theorem o_Rm_named : c_mok D_Rm_named := ⟨k_Rm_named, List.mem_of_getElem? (i := 1714) rfl, by decide, rfl, Or.inr (Or.inl ⟨rfl, rfl⟩)⟩
set_option maxRecDepth 100000 in
theorem o_Rm_constant : c_mok D_Rm_constant := ⟨k_Rm_constant, List.mem_of_getElem? (i := 1718) rfl, by decide, rfl, Or.inr (Or.inl ⟨rfl, rfl⟩)⟩
set_option maxRecDepth 100000 in
theorem o_Rm_size : c_mok D_Rm_size := ⟨k_Rm_size, List.mem_of_getElem? (i := 1722) rfl, by decide, rfl, Or.inr (Or.inl ⟨rfl, rfl⟩)⟩
set_option maxRecDepth 100000 in
theorem o_Rm_out : c_mok D_Rm_out := ⟨k_Rm_out, List.mem_of_getElem? (i := 1726) rfl, by decide, rfl, Or.inr (Or.inl ⟨rfl, rfl⟩)⟩
set_option maxRecDepth 100000 in
theorem o_Rm_forget : c_mok D_Rm_forget := ⟨k_Rm_forget, List.mem_of_getElem? (i := 1730) rfl, by decide, rfl, Or.inr (Or.inl ⟨rfl, rfl⟩)⟩
set_option maxRecDepth 100000 in
theorem o_Rm_count : c_mok D_Rm_count := ⟨k_Rm_count, List.mem_of_getElem? (i := 1734) rfl, by decide, rfl, Or.inr (Or.inl ⟨rfl, rfl⟩)⟩
set_option maxRecDepth 100000 in
theorem o_Ce_mark : c_mok D_Ce_mark := ⟨k_Ce_mark, List.mem_of_getElem? (i := 701) rfl, by decide, rfl, Or.inr (Or.inl ⟨rfl, rfl⟩)⟩
set_option maxRecDepth 100000 in
theorem o_Ce_release : c_mok D_Ce_release := ⟨k_Ce_release, List.mem_of_getElem? (i := 513) rfl, by decide, rfl, Or.inl ⟨rfl, rfl⟩⟩
set_option maxRecDepth 100000 in
theorem o_Ce_make : c_mok D_Ce_make := ⟨k_Ce_make, List.mem_of_getElem? (i := 747) rfl, by decide, rfl, Or.inr (Or.inl ⟨rfl, rfl⟩)⟩
set_option maxRecDepth 100000 in
theorem o_Ce_term : c_mok D_Ce_term := ⟨k_Ce_term, List.mem_of_getElem? (i := 818) rfl, by decide, rfl, Or.inr (Or.inl ⟨rfl, rfl⟩)⟩
set_option maxRecDepth 100000 in
theorem o_Ce_scope : c_mok D_Ce_scope := ⟨k_Ce_scope, List.mem_of_getElem? (i := 822) rfl, by decide, rfl, Or.inr (Or.inl ⟨rfl, rfl⟩)⟩
set_option maxRecDepth 100000 in
theorem o_Ce_next : c_mok D_Ce_next := ⟨k_Ce_next, List.mem_of_getElem? (i := 814) rfl, by decide, rfl, Or.inr (Or.inl ⟨rfl, rfl⟩)⟩
set_option maxRecDepth 100000 in
theorem o_Ce_binder : c_mok D_Ce_binder := ⟨k_Ce_binder, List.mem_of_getElem? (i := 850) rfl, by decide, rfl, Or.inr (Or.inl ⟨rfl, rfl⟩)⟩
set_option maxRecDepth 100000 in
theorem o_Ce_link : c_mok D_Ce_link := ⟨k_Ce_link, List.mem_of_getElem? (i := 752) rfl, by decide, rfl, Or.inl ⟨rfl, rfl⟩⟩
set_option maxRecDepth 100000 in
theorem o_Ce_bind : c_mok D_Ce_bind := ⟨k_Ce_bind, List.mem_of_getElem? (i := 760) rfl, by decide, rfl, Or.inr (Or.inl ⟨rfl, rfl⟩)⟩
set_option maxRecDepth 100000 in
theorem o_Ce_newVariable : c_mok D_Ce_newVariable := ⟨k_Ce_newVariable, List.mem_of_getElem? (i := 743) rfl, by decide, rfl, Or.inr (Or.inl ⟨rfl, rfl⟩)⟩
set_option maxRecDepth 100000 in
theorem o_Ce_numberOf : c_mok D_Ce_numberOf := ⟨k_Ce_numberOf, List.mem_of_getElem? (i := 1077) rfl, by decide, rfl, Or.inr (Or.inl ⟨rfl, rfl⟩)⟩
set_option maxRecDepth 100000 in
theorem o_Ce_enter : c_mok D_Ce_enter := ⟨k_Ce_enter, List.mem_of_getElem? (i := 756) rfl, by decide, rfl, Or.inr (Or.inl ⟨rfl, rfl⟩)⟩
set_option maxRecDepth 100000 in
theorem o_Ce_append : c_mok D_Ce_append := ⟨k_Ce_append, List.mem_of_getElem? (i := 912) rfl, by decide, rfl, Or.inr (Or.inl ⟨rfl, rfl⟩)⟩
set_option maxRecDepth 100000 in
theorem o_Ce_outward : c_mok D_Ce_outward := ⟨k_Ce_outward, List.mem_of_getElem? (i := 810) rfl, by decide, rfl, Or.inr (Or.inl ⟨rfl, rfl⟩)⟩
set_option maxRecDepth 100000 in
theorem o_Ck_sort : c_mok D_Ck_sort := ⟨k_Ck_sort, List.mem_of_getElem? (i := 962) rfl, by decide, rfl, Or.inr (Or.inl ⟨rfl, rfl⟩)⟩
set_option maxRecDepth 100000 in
theorem o_Ck_faultOfDeclaration : c_mok D_Ck_faultOfDeclaration := ⟨k_Ck_faultOfDeclaration, List.mem_of_getElem? (i := 693) rfl, by decide, rfl, Or.inr (Or.inl ⟨rfl, rfl⟩)⟩
set_option maxRecDepth 100000 in
theorem o_Ck_faultOfObject : c_mok D_Ck_faultOfObject := ⟨k_Ck_faultOfObject, List.mem_of_getElem? (i := 994) rfl, by decide, rfl, Or.inr (Or.inl ⟨rfl, rfl⟩)⟩
set_option maxRecDepth 100000 in
theorem o_Ck_wrong : c_mok D_Ck_wrong := ⟨k_Ck_wrong, List.mem_of_getElem? (i := 730) rfl, by decide, rfl, Or.inl ⟨rfl, rfl⟩⟩
set_option maxRecDepth 100000 in
theorem o_Ck_step : c_mok D_Ck_step := ⟨k_Ck_step, List.mem_of_getElem? (i := 713) rfl, by decide, rfl, Or.inr (Or.inr ⟨rfl, rfl⟩)⟩
set_option maxRecDepth 100000 in
theorem o_Ck_classifier : c_mok D_Ck_classifier := ⟨k_Ck_classifier, List.mem_of_getElem? (i := 697) rfl, by decide, rfl, Or.inr (Or.inr ⟨rfl, rfl⟩)⟩
set_option maxRecDepth 100000 in
theorem o_Ck_under : c_mok D_Ck_under := ⟨k_Ck_under, List.mem_of_getElem? (i := 739) rfl, by decide, rfl, Or.inr (Or.inl ⟨rfl, rfl⟩)⟩
set_option maxRecDepth 100000 in
theorem o_Ck_family : c_mok D_Ck_family := ⟨k_Ck_family, List.mem_of_getElem? (i := 768) rfl, by decide, rfl, Or.inl ⟨rfl, rfl⟩⟩
set_option maxRecDepth 100000 in
theorem o_Ck_isFamilyName : c_mok D_Ck_isFamilyName := ⟨k_Ck_isFamilyName, List.mem_of_getElem? (i := 782) rfl, by decide, rfl, Or.inr (Or.inr ⟨rfl, rfl⟩)⟩
set_option maxRecDepth 100000 in
theorem o_Ck_objectsOfFamily : c_mok D_Ck_objectsOfFamily := ⟨k_Ck_objectsOfFamily, List.mem_of_getElem? (i := 795) rfl, by decide, rfl, Or.inl ⟨rfl, rfl⟩⟩
set_option maxRecDepth 100000 in
theorem o_Ck_fitting : c_mok D_Ck_fitting := ⟨k_Ck_fitting, List.mem_of_getElem? (i := 832) rfl, by decide, rfl, Or.inl ⟨rfl, rfl⟩⟩
set_option maxRecDepth 100000 in
theorem o_Ck_object : c_mok D_Ck_object := ⟨k_Ck_object, List.mem_of_getElem? (i := 836) rfl, by decide, rfl, Or.inl ⟨rfl, rfl⟩⟩
set_option maxRecDepth 100000 in
theorem o_Ck_bareObject : c_mok D_Ck_bareObject := ⟨k_Ck_bareObject, List.mem_of_getElem? (i := 874) rfl, by decide, rfl, Or.inl ⟨rfl, rfl⟩⟩
set_option maxRecDepth 100000 in
theorem o_Ck_applied : c_mok D_Ck_applied := ⟨k_Ck_applied, List.mem_of_getElem? (i := 840) rfl, by decide, rfl, Or.inl ⟨rfl, rfl⟩⟩
set_option maxRecDepth 100000 in
theorem o_Co_number : c_mok D_Co_number := ⟨k_Co_number, List.mem_of_getElem? (i := 1130) rfl, by decide, rfl, Or.inr (Or.inl ⟨rfl, rfl⟩)⟩
set_option maxRecDepth 100000 in
theorem o_Co_full : c_mok D_Co_full := ⟨k_Co_full, List.mem_of_getElem? (i := 601) rfl, by decide, rfl, Or.inr (Or.inr ⟨rfl, rfl⟩)⟩
set_option maxRecDepth 100000 in
theorem o_Co_sort : c_mok D_Co_sort := ⟨k_Co_sort, List.mem_of_getElem? (i := 786) rfl, by decide, rfl, Or.inr (Or.inl ⟨rfl, rfl⟩)⟩
set_option maxRecDepth 100000 in
theorem o_Co_typeRoot : c_mok D_Co_typeRoot := ⟨k_Co_typeRoot, List.mem_of_getElem? (i := 799) rfl, by decide, rfl, Or.inr (Or.inl ⟨rfl, rfl⟩)⟩
set_option maxRecDepth 100000 in
theorem o_Co_bodyRoot : c_mok D_Co_bodyRoot := ⟨k_Co_bodyRoot, List.mem_of_getElem? (i := 928) rfl, by decide, rfl, Or.inr (Or.inl ⟨rfl, rfl⟩)⟩
set_option maxRecDepth 100000 in
theorem o_Co_wanted : c_mok D_Co_wanted := ⟨k_Co_wanted, List.mem_of_getElem? (i := 1135) rfl, by decide, rfl, Or.inr (Or.inl ⟨rfl, rfl⟩)⟩
set_option maxRecDepth 100000 in
theorem o_Co_nameLength : c_mok D_Co_nameLength := ⟨k_Co_nameLength, List.mem_of_getElem? (i := 588) rfl, by decide, rfl, Or.inr (Or.inl ⟨rfl, rfl⟩)⟩
set_option maxRecDepth 100000 in
theorem o_Co_nameSign : c_mok D_Co_nameSign := ⟨k_Co_nameSign, List.mem_of_getElem? (i := 596) rfl, by decide, rfl, Or.inr (Or.inl ⟨rfl, rfl⟩)⟩
set_option maxRecDepth 100000 in
theorem o_Co_name : c_mok D_Co_name := ⟨k_Co_name, List.mem_of_getElem? (i := 958) rfl, by decide, rfl, Or.inl ⟨rfl, rfl⟩⟩
set_option maxRecDepth 100000 in
theorem o_Co_add : c_mok D_Co_add := ⟨k_Co_add, List.mem_of_getElem? (i := 966) rfl, by decide, rfl, Or.inl ⟨rfl, rfl⟩⟩
set_option maxRecDepth 100000 in
theorem o_Co_drop : c_mok D_Co_drop := ⟨k_Co_drop, List.mem_of_getElem? (i := 1162) rfl, by decide, rfl, Or.inl ⟨rfl, rfl⟩⟩
set_option maxRecDepth 100000 in
theorem o_Co_find : c_mok D_Co_find := ⟨k_Co_find, List.mem_of_getElem? (i := 584) rfl, by decide, rfl, Or.inr (Or.inl ⟨rfl, rfl⟩)⟩
set_option maxRecDepth 100000 in
theorem o_Co_isNamed : c_mok D_Co_isNamed := ⟨k_Co_isNamed, List.mem_of_getElem? (i := 592) rfl, by decide, rfl, Or.inr (Or.inr ⟨rfl, rfl⟩)⟩
set_option maxRecDepth 100000 in
theorem o_Co_fewestXs : c_mok D_Co_fewestXs := ⟨k_Co_fewestXs, List.mem_of_getElem? (i := 1002) rfl, by decide, rfl, Or.inr (Or.inl ⟨rfl, rfl⟩)⟩
set_option maxRecDepth 100000 in
theorem o_Co_anyIsXsAndNumber : c_mok D_Co_anyIsXsAndNumber := ⟨k_Co_anyIsXsAndNumber, List.mem_of_getElem? (i := 1006) rfl, by decide, rfl, Or.inr (Or.inr ⟨rfl, rfl⟩)⟩
set_option maxRecDepth 100000 in
theorem o_Co_isXsAndNumber : c_mok D_Co_isXsAndNumber := ⟨k_Co_isXsAndNumber, List.mem_of_getElem? (i := 1010) rfl, by decide, rfl, Or.inr (Or.inr ⟨rfl, rfl⟩)⟩
set_option maxRecDepth 100000 in
theorem o_Ju_sameObjects : c_mok D_Ju_sameObjects := ⟨k_Ju_sameObjects, List.mem_of_getElem? (i := 1111) rfl, by decide, rfl, Or.inr (Or.inr ⟨rfl, rfl⟩)⟩
set_option maxRecDepth 100000 in
theorem o_Ju_families : c_mok D_Ju_families := ⟨k_Ju_families, List.mem_of_getElem? (i := 879) rfl, by decide, rfl, Or.inr (Or.inr ⟨rfl, rfl⟩)⟩
set_option maxRecDepth 100000 in
theorem o_Ju_rows : c_mok D_Ju_rows := ⟨k_Ju_rows, List.mem_of_getElem? (i := 902) rfl, by decide, rfl, Or.inr (Or.inr ⟨rfl, rfl⟩)⟩
set_option maxRecDepth 100000 in
theorem o_Ju_meet : c_mok D_Ju_meet := ⟨k_Ju_meet, List.mem_of_getElem? (i := 908) rfl, by decide, rfl, Or.inr (Or.inr ⟨rfl, rfl⟩)⟩
set_option maxRecDepth 100000 in
theorem o_Ju_sameLength : c_mok D_Ju_sameLength := ⟨k_Ju_sameLength, List.mem_of_getElem? (i := 945) rfl, by decide, rfl, Or.inr (Or.inr ⟨rfl, rfl⟩)⟩
set_option maxRecDepth 100000 in
theorem o_Ma_shape : c_mok D_Ma_shape := ⟨k_Ma_shape, List.mem_of_getElem? (i := 862) rfl, by decide, rfl, Or.inr (Or.inl ⟨rfl, rfl⟩)⟩
set_option maxRecDepth 100000 in
theorem o_Ma_shapeScope : c_mok D_Ma_shapeScope := ⟨k_Ma_shapeScope, List.mem_of_getElem? (i := 866) rfl, by decide, rfl, Or.inr (Or.inl ⟨rfl, rfl⟩)⟩
set_option maxRecDepth 100000 in
theorem o_Ma_head : c_mok D_Ma_head := ⟨k_Ma_head, List.mem_of_getElem? (i := 933) rfl, by decide, rfl, Or.inr (Or.inl ⟨rfl, rfl⟩)⟩
set_option maxRecDepth 100000 in
theorem o_Ma_row : c_mok D_Ma_row := ⟨k_Ma_row, List.mem_of_getElem? (i := 937) rfl, by decide, rfl, Or.inr (Or.inl ⟨rfl, rfl⟩)⟩
set_option maxRecDepth 100000 in
theorem o_Ma_headType : c_mok D_Ma_headType := ⟨k_Ma_headType, List.mem_of_getElem? (i := 941) rfl, by decide, rfl, Or.inr (Or.inl ⟨rfl, rfl⟩)⟩
set_option maxRecDepth 100000 in
theorem o_Ma_headTypeScope : c_mok D_Ma_headTypeScope := ⟨k_Ma_headTypeScope, List.mem_of_getElem? (i := 1082) rfl, by decide, rfl, Or.inr (Or.inl ⟨rfl, rfl⟩)⟩
set_option maxRecDepth 100000 in
theorem o_Ma_push : c_mok D_Ma_push := ⟨k_Ma_push, List.mem_of_getElem? (i := 803) rfl, by decide, rfl, Or.inr (Or.inl ⟨rfl, rfl⟩)⟩
set_option maxRecDepth 100000 in
theorem o_Ma_expose : c_mok D_Ma_expose := ⟨k_Ma_expose, List.mem_of_getElem? (i := 844) rfl, by decide, rfl, Or.inl ⟨rfl, rfl⟩⟩
set_option maxRecDepth 100000 in
theorem o_Ma_headForm : c_mok D_Ma_headForm := ⟨k_Ma_headForm, List.mem_of_getElem? (i := 918) rfl, by decide, rfl, Or.inr (Or.inr ⟨rfl, rfl⟩)⟩
set_option maxRecDepth 100000 in
theorem o_Ma_isDefinition : c_mok D_Ma_isDefinition := ⟨k_Ma_isDefinition, List.mem_of_getElem? (i := 923) rfl, by decide, rfl, Or.inr (Or.inr ⟨rfl, rfl⟩)⟩
set_option maxRecDepth 100000 in
theorem o_Me_begin : c_mok D_Me_begin := ⟨k_Me_begin, List.mem_of_getElem? (i := 509) rfl, by decide, rfl, Or.inl ⟨rfl, rfl⟩⟩
set_option maxRecDepth 100000 in
theorem o_Me_stepsInAll : c_mok D_Me_stepsInAll := ⟨k_Me_stepsInAll, List.mem_of_getElem? (i := 1171) rfl, by decide, rfl, Or.inr (Or.inl ⟨rfl, rfl⟩)⟩
set_option maxRecDepth 100000 in
theorem o_Me_stepsOfLatest : c_mok D_Me_stepsOfLatest := ⟨k_Me_stepsOfLatest, List.mem_of_getElem? (i := 1175) rfl, by decide, rfl, Or.inr (Or.inl ⟨rfl, rfl⟩)⟩
set_option maxRecDepth 100000 in
theorem o_Me_trouble : c_mok D_Me_trouble := ⟨k_Me_trouble, List.mem_of_getElem? (i := 726) rfl, by decide, rfl, Or.inr (Or.inl ⟨rfl, rfl⟩)⟩
set_option maxRecDepth 100000 in
theorem o_Me_stop : c_mok D_Me_stop := ⟨k_Me_stop, List.mem_of_getElem? (i := 722) rfl, by decide, rfl, Or.inl ⟨rfl, rfl⟩⟩
set_option maxRecDepth 100000 in
theorem o_Me_step : c_mok D_Me_step := ⟨k_Me_step, List.mem_of_getElem? (i := 717) rfl, by decide, rfl, Or.inr (Or.inr ⟨rfl, rfl⟩)⟩
set_option maxRecDepth 100000 in
theorem o_Me_question : c_mok D_Me_question := ⟨k_Me_question, List.mem_of_getElem? (i := 883) rfl, by decide, rfl, Or.inr (Or.inr ⟨rfl, rfl⟩)⟩
set_option maxRecDepth 100000 in
theorem o_No_mark : c_mok D_No_mark := ⟨k_No_mark, List.mem_of_getElem? (i := 553) rfl, by decide, rfl, Or.inr (Or.inl ⟨rfl, rfl⟩)⟩
set_option maxRecDepth 100000 in
theorem o_No_release : c_mok D_No_release := ⟨k_No_release, List.mem_of_getElem? (i := 970) rfl, by decide, rfl, Or.inl ⟨rfl, rfl⟩⟩
set_option maxRecDepth 100000 in
theorem o_No_full : c_mok D_No_full := ⟨k_No_full, List.mem_of_getElem? (i := 642) rfl, by decide, rfl, Or.inr (Or.inr ⟨rfl, rfl⟩)⟩
set_option maxRecDepth 100000 in
theorem o_No_make : c_mok D_No_make := ⟨k_No_make, List.mem_of_getElem? (i := 646) rfl, by decide, rfl, Or.inr (Or.inl ⟨rfl, rfl⟩)⟩
set_option maxRecDepth 100000 in
theorem o_No_kind : c_mok D_No_kind := ⟨k_No_kind, List.mem_of_getElem? (i := 705) rfl, by decide, rfl, Or.inr (Or.inl ⟨rfl, rfl⟩)⟩
set_option maxRecDepth 100000 in
theorem o_No_left : c_mok D_No_left := ⟨k_No_left, List.mem_of_getElem? (i := 735) rfl, by decide, rfl, Or.inr (Or.inl ⟨rfl, rfl⟩)⟩
set_option maxRecDepth 100000 in
theorem o_No_right : c_mok D_No_right := ⟨k_No_right, List.mem_of_getElem? (i := 764) rfl, by decide, rfl, Or.inr (Or.inl ⟨rfl, rfl⟩)⟩
set_option maxRecDepth 100000 in
theorem o_No_sibling : c_mok D_No_sibling := ⟨k_No_sibling, List.mem_of_getElem? (i := 828) rfl, by decide, rfl, Or.inr (Or.inl ⟨rfl, rfl⟩)⟩
set_option maxRecDepth 100000 in
theorem o_No_token : c_mok D_No_token := ⟨k_No_token, List.mem_of_getElem? (i := 709) rfl, by decide, rfl, Or.inr (Or.inl ⟨rfl, rfl⟩)⟩
set_option maxRecDepth 100000 in
theorem o_No_first : c_mok D_No_first := ⟨k_No_first, List.mem_of_getElem? (i := 777) rfl, by decide, rfl, Or.inr (Or.inl ⟨rfl, rfl⟩)⟩
set_option maxRecDepth 100000 in
theorem o_No_place : c_mok D_No_place := ⟨k_No_place, List.mem_of_getElem? (i := 681) rfl, by decide, rfl, Or.inr (Or.inl ⟨rfl, rfl⟩)⟩
set_option maxRecDepth 100000 in
theorem o_No_inBrackets : c_mok D_No_inBrackets := ⟨k_No_inBrackets, List.mem_of_getElem? (i := 772) rfl, by decide, rfl, Or.inr (Or.inr ⟨rfl, rfl⟩)⟩
set_option maxRecDepth 100000 in
theorem o_No_isArrow : c_mok D_No_isArrow := ⟨k_No_isArrow, List.mem_of_getElem? (i := 856) rfl, by decide, rfl, Or.inr (Or.inr ⟨rfl, rfl⟩)⟩
set_option maxRecDepth 100000 in
theorem o_No_setPlace : c_mok D_No_setPlace := ⟨k_No_setPlace, List.mem_of_getElem? (i := 662) rfl, by decide, rfl, Or.inl ⟨rfl, rfl⟩⟩
set_option maxRecDepth 100000 in
theorem o_No_setSibling : c_mok D_No_setSibling := ⟨k_No_setSibling, List.mem_of_getElem? (i := 677) rfl, by decide, rfl, Or.inl ⟨rfl, rfl⟩⟩
set_option maxRecDepth 100000 in
theorem o_No_becomeFamily : c_mok D_No_becomeFamily := ⟨k_No_becomeFamily, List.mem_of_getElem? (i := 791) rfl, by decide, rfl, Or.inl ⟨rfl, rfl⟩⟩
set_option maxRecDepth 100000 in
theorem o_Pa_length : c_mok D_Pa_length := ⟨k_Pa_length, List.mem_of_getElem? (i := 1146) rfl, by decide, rfl, Or.inr (Or.inl ⟨rfl, rfl⟩)⟩
set_option maxRecDepth 100000 in
theorem o_Pa_signAt : c_mok D_Pa_signAt := ⟨k_Pa_signAt, List.mem_of_getElem? (i := 1154) rfl, by decide, rfl, Or.inr (Or.inl ⟨rfl, rfl⟩)⟩
set_option maxRecDepth 100000 in
theorem o_Pa_beginDraft : c_mok D_Pa_beginDraft := ⟨k_Pa_beginDraft, List.mem_of_getElem? (i := 1015) rfl, by decide, rfl, Or.inl ⟨rfl, rfl⟩⟩
set_option maxRecDepth 100000 in
theorem o_Pa_put : c_mok D_Pa_put := ⟨k_Pa_put, List.mem_of_getElem? (i := 1028) rfl, by decide, rfl, Or.inl ⟨rfl, rfl⟩⟩
set_option maxRecDepth 100000 in
theorem o_Pa_keepDraft : c_mok D_Pa_keepDraft := ⟨k_Pa_keepDraft, List.mem_of_getElem? (i := 1088) rfl, by decide, rfl, Or.inl ⟨rfl, rfl⟩⟩
set_option maxRecDepth 100000 in
theorem o_Re_begin : c_mok D_Re_begin := ⟨k_Re_begin, List.mem_of_getElem? (i := 517) rfl, by decide, rfl, Or.inl ⟨rfl, rfl⟩⟩
set_option maxRecDepth 100000 in
theorem o_Re_fault : c_mok D_Re_fault := ⟨k_Re_fault, List.mem_of_getElem? (i := 990) rfl, by decide, rfl, Or.inr (Or.inl ⟨rfl, rfl⟩)⟩
set_option maxRecDepth 100000 in
theorem o_Re_namePlace : c_mok D_Re_namePlace := ⟨k_Re_namePlace, List.mem_of_getElem? (i := 950) rfl, by decide, rfl, Or.inr (Or.inl ⟨rfl, rfl⟩)⟩
set_option maxRecDepth 100000 in
theorem o_Re_nameLength : c_mok D_Re_nameLength := ⟨k_Re_nameLength, List.mem_of_getElem? (i := 954) rfl, by decide, rfl, Or.inr (Or.inl ⟨rfl, rfl⟩)⟩
set_option maxRecDepth 100000 in
theorem o_Re_typeRoot : c_mok D_Re_typeRoot := ⟨k_Re_typeRoot, List.mem_of_getElem? (i := 685) rfl, by decide, rfl, Or.inr (Or.inl ⟨rfl, rfl⟩)⟩
set_option maxRecDepth 100000 in
theorem o_Re_bodyRoot : c_mok D_Re_bodyRoot := ⟨k_Re_bodyRoot, List.mem_of_getElem? (i := 689) rfl, by decide, rfl, Or.inr (Or.inl ⟨rfl, rfl⟩)⟩
set_option maxRecDepth 100000 in
theorem o_Re_faultOfDeclaration : c_mok D_Re_faultOfDeclaration := ⟨k_Re_faultOfDeclaration, List.mem_of_getElem? (i := 557) rfl, by decide, rfl, Or.inr (Or.inl ⟨rfl, rfl⟩)⟩
set_option maxRecDepth 100000 in
theorem o_Re_expressionBefore : c_mok D_Re_expressionBefore := ⟨k_Re_expressionBefore, List.mem_of_getElem? (i := 986) rfl, by decide, rfl, Or.inr (Or.inl ⟨rfl, rfl⟩)⟩
set_option maxRecDepth 100000 in
theorem o_Re_readNewName : c_mok D_Re_readNewName := ⟨k_Re_readNewName, List.mem_of_getElem? (i := 561) rfl, by decide, rfl, Or.inl ⟨rfl, rfl⟩⟩
set_option maxRecDepth 100000 in
theorem o_Re_take : c_mok D_Re_take := ⟨k_Re_take, List.mem_of_getElem? (i := 606) rfl, by decide, rfl, Or.inl ⟨rfl, rfl⟩⟩
set_option maxRecDepth 100000 in
theorem o_Re_refuse : c_mok D_Re_refuse := ⟨k_Re_refuse, List.mem_of_getElem? (i := 577) rfl, by decide, rfl, Or.inr (Or.inl ⟨rfl, rfl⟩)⟩
set_option maxRecDepth 100000 in
theorem o_Re_wholeExpression : c_mok D_Re_wholeExpression := ⟨k_Re_wholeExpression, List.mem_of_getElem? (i := 610) rfl, by decide, rfl, Or.inr (Or.inl ⟨rfl, rfl⟩)⟩
set_option maxRecDepth 100000 in
theorem o_Re_expression : c_mok D_Re_expression := ⟨k_Re_expression, List.mem_of_getElem? (i := 614) rfl, by decide, rfl, Or.inr (Or.inl ⟨rfl, rfl⟩)⟩
set_option maxRecDepth 100000 in
theorem o_Re_binding : c_mok D_Re_binding := ⟨k_Re_binding, List.mem_of_getElem? (i := 622) rfl, by decide, rfl, Or.inr (Or.inl ⟨rfl, rfl⟩)⟩
set_option maxRecDepth 100000 in
theorem o_Re_arrow : c_mok D_Re_arrow := ⟨k_Re_arrow, List.mem_of_getElem? (i := 650) rfl, by decide, rfl, Or.inr (Or.inl ⟨rfl, rfl⟩)⟩
set_option maxRecDepth 100000 in
theorem o_Re_application : c_mok D_Re_application := ⟨k_Re_application, List.mem_of_getElem? (i := 654) rfl, by decide, rfl, Or.inr (Or.inl ⟨rfl, rfl⟩)⟩
set_option maxRecDepth 100000 in
theorem o_Re_part : c_mok D_Re_part := ⟨k_Re_part, List.mem_of_getElem? (i := 658) rfl, by decide, rfl, Or.inr (Or.inl ⟨rfl, rfl⟩)⟩
set_option maxRecDepth 100000 in
theorem o_Re_startsPart : c_mok D_Re_startsPart := ⟨k_Re_startsPart, List.mem_of_getElem? (i := 618) rfl, by decide, rfl, Or.inr (Or.inr ⟨rfl, rfl⟩)⟩
set_option maxRecDepth 100000 in
theorem o_Re_countPart : c_mok D_Re_countPart := ⟨k_Re_countPart, List.mem_of_getElem? (i := 626) rfl, by decide, rfl, Or.inr (Or.inr ⟨rfl, rfl⟩)⟩
set_option maxRecDepth 100000 in
theorem o_Re_nameNode : c_mok D_Re_nameNode := ⟨k_Re_nameNode, List.mem_of_getElem? (i := 666) rfl, by decide, rfl, Or.inr (Or.inl ⟨rfl, rfl⟩)⟩
set_option maxRecDepth 100000 in
theorem o_Re_node : c_mok D_Re_node := ⟨k_Re_node, List.mem_of_getElem? (i := 638) rfl, by decide, rfl, Or.inr (Or.inl ⟨rfl, rfl⟩)⟩
set_option maxRecDepth 100000 in
theorem o_Re_enterScope : c_mok D_Re_enterScope := ⟨k_Re_enterScope, List.mem_of_getElem? (i := 630) rfl, by decide, rfl, Or.inl ⟨rfl, rfl⟩⟩
set_option maxRecDepth 100000 in
theorem o_Re_leaveScope : c_mok D_Re_leaveScope := ⟨k_Re_leaveScope, List.mem_of_getElem? (i := 634) rfl, by decide, rfl, Or.inl ⟨rfl, rfl⟩⟩
set_option maxRecDepth 100000 in
theorem o_Ta_append : c_mok D_Ta_append := ⟨k_Ta_append, List.mem_of_getElem? (i := 492) rfl, by decide, rfl, Or.inl ⟨rfl, rfl⟩⟩
set_option maxRecDepth 100000 in
theorem o_Ta_length : c_mok D_Ta_length := ⟨k_Ta_length, List.mem_of_getElem? (i := 497) rfl, by decide, rfl, Or.inr (Or.inl ⟨rfl, rfl⟩)⟩
set_option maxRecDepth 100000 in
theorem o_Ta_empty : c_mok D_Ta_empty := ⟨k_Ta_empty, List.mem_of_getElem? (i := 974) rfl, by decide, rfl, Or.inl ⟨rfl, rfl⟩⟩
set_option maxRecDepth 100000 in
theorem o_Ta_signAt : c_mok D_Ta_signAt := ⟨k_Ta_signAt, List.mem_of_getElem? (i := 529) rfl, by decide, rfl, Or.inr (Or.inl ⟨rfl, rfl⟩)⟩
set_option maxRecDepth 100000 in
theorem o_Ta_token : c_mok D_Ta_token := ⟨k_Ta_token, List.mem_of_getElem? (i := 573) rfl, by decide, rfl, Or.inr (Or.inl ⟨rfl, rfl⟩)⟩
set_option maxRecDepth 100000 in
theorem o_Ta_place : c_mok D_Ta_place := ⟨k_Ta_place, List.mem_of_getElem? (i := 565) rfl, by decide, rfl, Or.inr (Or.inl ⟨rfl, rfl⟩)⟩
set_option maxRecDepth 100000 in
theorem o_Ta_wordLength : c_mok D_Ta_wordLength := ⟨k_Ta_wordLength, List.mem_of_getElem? (i := 569) rfl, by decide, rfl, Or.inr (Or.inl ⟨rfl, rfl⟩)⟩
set_option maxRecDepth 100000 in
theorem o_Ta_atEnd : c_mok D_Ta_atEnd := ⟨k_Ta_atEnd, List.mem_of_getElem? (i := 549) rfl, by decide, rfl, Or.inr (Or.inr ⟨rfl, rfl⟩)⟩
set_option maxRecDepth 100000 in
theorem o_Ta_rewind : c_mok D_Ta_rewind := ⟨k_Ta_rewind, List.mem_of_getElem? (i := 521) rfl, by decide, rfl, Or.inl ⟨rfl, rfl⟩⟩
set_option maxRecDepth 100000 in
theorem o_Ta_advance : c_mok D_Ta_advance := ⟨k_Ta_advance, List.mem_of_getElem? (i := 525) rfl, by decide, rfl, Or.inl ⟨rfl, rfl⟩⟩
set_option maxRecDepth 100000 in
theorem o_Ta_readWord : c_mok D_Ta_readWord := ⟨k_Ta_readWord, List.mem_of_getElem? (i := 539) rfl, by decide, rfl, Or.inl ⟨rfl, rfl⟩⟩
set_option maxRecDepth 100000 in
theorem o_Ta_sameSigns : c_mok D_Ta_sameSigns := ⟨k_Ta_sameSigns, List.mem_of_getElem? (i := 673) rfl, by decide, rfl, Or.inr (Or.inr ⟨rfl, rfl⟩)⟩
set_option maxRecDepth 100000 in
theorem o_Ta_isBlank : c_mok D_Ta_isBlank := ⟨k_Ta_isBlank, List.mem_of_getElem? (i := 532) rfl, by decide, rfl, Or.inr (Or.inr ⟨rfl, rfl⟩)⟩
set_option maxRecDepth 100000 in
theorem o_Ta_isMark : c_mok D_Ta_isMark := ⟨k_Ta_isMark, List.mem_of_getElem? (i := 545) rfl, by decide, rfl, Or.inr (Or.inr ⟨rfl, rfl⟩)⟩
set_option maxRecDepth 100000 in
theorem o_Wr_write : c_mok D_Wr_write := ⟨k_Wr_write, List.mem_of_getElem? (i := 998) rfl, by decide, rfl, Or.inl ⟨rfl, rfl⟩⟩
set_option maxRecDepth 100000 in
theorem o_Wr_family : c_mok D_Wr_family := ⟨k_Wr_family, List.mem_of_getElem? (i := 1019) rfl, by decide, rfl, Or.inl ⟨rfl, rfl⟩⟩
set_option maxRecDepth 100000 in
theorem o_Wr_binding : c_mok D_Wr_binding := ⟨k_Wr_binding, List.mem_of_getElem? (i := 1035) rfl, by decide, rfl, Or.inl ⟨rfl, rfl⟩⟩
set_option maxRecDepth 100000 in
theorem o_Wr_object : c_mok D_Wr_object := ⟨k_Wr_object, List.mem_of_getElem? (i := 1063) rfl, by decide, rfl, Or.inl ⟨rfl, rfl⟩⟩
set_option maxRecDepth 100000 in
theorem o_Wr_putHead : c_mok D_Wr_putHead := ⟨k_Wr_putHead, List.mem_of_getElem? (i := 1073) rfl, by decide, rfl, Or.inl ⟨rfl, rfl⟩⟩
set_option maxRecDepth 100000 in
theorem o_Wr_objects : c_mok D_Wr_objects := ⟨k_Wr_objects, List.mem_of_getElem? (i := 1056) rfl, by decide, rfl, Or.inl ⟨rfl, rfl⟩⟩
set_option maxRecDepth 100000 in
theorem o_Wr_putName : c_mok D_Wr_putName := ⟨k_Wr_putName, List.mem_of_getElem? (i := 1048) rfl, by decide, rfl, Or.inl ⟨rfl, rfl⟩⟩
set_option maxRecDepth 100000 in
theorem o_Wr_putVariable : c_mok D_Wr_putVariable := ⟨k_Wr_putVariable, List.mem_of_getElem? (i := 1040) rfl, by decide, rfl, Or.inl ⟨rfl, rfl⟩⟩
def d_M0 : List c_M0 := [D_Fb_feed, D_Fb_declare, D_Fb_canon, D_Fb_type, D_Fb_equal, D_Fb_named, D_Fb_constant, D_Fb_size, D_Fb_out, D_Fb_forget, D_Fb_count, D_Fb_begin, D_Fb_writtenForm, D_Fb_comparison, D_Fb_troubleAtEnd, D_Fb_faultAt, D_Fb_isLetter, D_Fb_isDigit, D_Rm_feed, D_Rm_lay, D_Rm_isLetter, D_Rm_isDigit, D_Rm_rank, D_Rm_isSignOf, D_Rm_cutAll, D_Rm_wrong, D_Rm_isSign, D_Rm_isType, D_Rm_isName, D_Rm_takeSign, D_Rm_node, D_Rm_typeNode, D_Rm_within, D_Rm_counts, D_Rm_readWhole, D_Rm_isP, D_Rm_readE, D_Rm_readBinder, D_Rm_readA, D_Rm_readP]
theorem o_g0 : ∀ q ∈ d_M0, c_mok q := List.forall_mem_cons.mpr ⟨o_Fb_feed, List.forall_mem_cons.mpr ⟨o_Fb_declare, List.forall_mem_cons.mpr ⟨o_Fb_canon, List.forall_mem_cons.mpr ⟨o_Fb_type, List.forall_mem_cons.mpr ⟨o_Fb_equal, List.forall_mem_cons.mpr ⟨o_Fb_named, List.forall_mem_cons.mpr ⟨o_Fb_constant, List.forall_mem_cons.mpr ⟨o_Fb_size, List.forall_mem_cons.mpr ⟨o_Fb_out, List.forall_mem_cons.mpr ⟨o_Fb_forget, List.forall_mem_cons.mpr ⟨o_Fb_count, List.forall_mem_cons.mpr ⟨o_Fb_begin, List.forall_mem_cons.mpr ⟨o_Fb_writtenForm, List.forall_mem_cons.mpr ⟨o_Fb_comparison, List.forall_mem_cons.mpr ⟨o_Fb_troubleAtEnd, List.forall_mem_cons.mpr ⟨o_Fb_faultAt, List.forall_mem_cons.mpr ⟨o_Fb_isLetter, List.forall_mem_cons.mpr ⟨o_Fb_isDigit, List.forall_mem_cons.mpr ⟨o_Rm_feed, List.forall_mem_cons.mpr ⟨o_Rm_lay, List.forall_mem_cons.mpr ⟨o_Rm_isLetter, List.forall_mem_cons.mpr ⟨o_Rm_isDigit, List.forall_mem_cons.mpr ⟨o_Rm_rank, List.forall_mem_cons.mpr ⟨o_Rm_isSignOf, List.forall_mem_cons.mpr ⟨o_Rm_cutAll, List.forall_mem_cons.mpr ⟨o_Rm_wrong, List.forall_mem_cons.mpr ⟨o_Rm_isSign, List.forall_mem_cons.mpr ⟨o_Rm_isType, List.forall_mem_cons.mpr ⟨o_Rm_isName, List.forall_mem_cons.mpr ⟨o_Rm_takeSign, List.forall_mem_cons.mpr ⟨o_Rm_node, List.forall_mem_cons.mpr ⟨o_Rm_typeNode, List.forall_mem_cons.mpr ⟨o_Rm_within, List.forall_mem_cons.mpr ⟨o_Rm_counts, List.forall_mem_cons.mpr ⟨o_Rm_readWhole, List.forall_mem_cons.mpr ⟨o_Rm_isP, List.forall_mem_cons.mpr ⟨o_Rm_readE, List.forall_mem_cons.mpr ⟨o_Rm_readBinder, List.forall_mem_cons.mpr ⟨o_Rm_readA, List.forall_mem_cons.mpr ⟨o_Rm_readP, fun _ h => absurd h List.not_mem_nil⟩⟩⟩⟩⟩⟩⟩⟩⟩⟩⟩⟩⟩⟩⟩⟩⟩⟩⟩⟩⟩⟩⟩⟩⟩⟩⟩⟩⟩⟩⟩⟩⟩⟩⟩⟩⟩⟩⟩⟩
def d_M1 : List c_M0 := [D_Rm_constantOf, D_Rm_closure, D_Rm_list, D_Rm_behind, D_Rm_newVar, D_Rm_step, D_Rm_stepAt, D_Rm_begins, D_Rm_shows, D_Rm_shown, D_Rm_without, D_Rm_heads, D_Rm_manyBehind, D_Rm_asks, D_Rm_sameFamilies, D_Rm_sameAsked, D_Rm_behindOf, D_Rm_sameSpines, D_Rm_sameBehind, D_Rm_append, D_Rm_sameObjects, D_Rm_sameObjectsAsked, D_Rm_equalFamilies, D_Rm_wanted, D_Rm_bind, D_Rm_unbind, D_Rm_find, D_Rm_isFamilyNode, D_Rm_family, D_Rm_familyBehind, D_Rm_is, D_Rm_object, D_Rm_name, D_Rm_lambda, D_Rm_objectBehind, D_Rm_oneBehind, D_Rm_declare, D_Rm_declaration, D_Rm_say, D_Rm_signOf]
theorem o_g1 : ∀ q ∈ d_M1, c_mok q := List.forall_mem_cons.mpr ⟨o_Rm_constantOf, List.forall_mem_cons.mpr ⟨o_Rm_closure, List.forall_mem_cons.mpr ⟨o_Rm_list, List.forall_mem_cons.mpr ⟨o_Rm_behind, List.forall_mem_cons.mpr ⟨o_Rm_newVar, List.forall_mem_cons.mpr ⟨o_Rm_step, List.forall_mem_cons.mpr ⟨o_Rm_stepAt, List.forall_mem_cons.mpr ⟨o_Rm_begins, List.forall_mem_cons.mpr ⟨o_Rm_shows, List.forall_mem_cons.mpr ⟨o_Rm_shown, List.forall_mem_cons.mpr ⟨o_Rm_without, List.forall_mem_cons.mpr ⟨o_Rm_heads, List.forall_mem_cons.mpr ⟨o_Rm_manyBehind, List.forall_mem_cons.mpr ⟨o_Rm_asks, List.forall_mem_cons.mpr ⟨o_Rm_sameFamilies, List.forall_mem_cons.mpr ⟨o_Rm_sameAsked, List.forall_mem_cons.mpr ⟨o_Rm_behindOf, List.forall_mem_cons.mpr ⟨o_Rm_sameSpines, List.forall_mem_cons.mpr ⟨o_Rm_sameBehind, List.forall_mem_cons.mpr ⟨o_Rm_append, List.forall_mem_cons.mpr ⟨o_Rm_sameObjects, List.forall_mem_cons.mpr ⟨o_Rm_sameObjectsAsked, List.forall_mem_cons.mpr ⟨o_Rm_equalFamilies, List.forall_mem_cons.mpr ⟨o_Rm_wanted, List.forall_mem_cons.mpr ⟨o_Rm_bind, List.forall_mem_cons.mpr ⟨o_Rm_unbind, List.forall_mem_cons.mpr ⟨o_Rm_find, List.forall_mem_cons.mpr ⟨o_Rm_isFamilyNode, List.forall_mem_cons.mpr ⟨o_Rm_family, List.forall_mem_cons.mpr ⟨o_Rm_familyBehind, List.forall_mem_cons.mpr ⟨o_Rm_is, List.forall_mem_cons.mpr ⟨o_Rm_object, List.forall_mem_cons.mpr ⟨o_Rm_name, List.forall_mem_cons.mpr ⟨o_Rm_lambda, List.forall_mem_cons.mpr ⟨o_Rm_objectBehind, List.forall_mem_cons.mpr ⟨o_Rm_oneBehind, List.forall_mem_cons.mpr ⟨o_Rm_declare, List.forall_mem_cons.mpr ⟨o_Rm_declaration, List.forall_mem_cons.mpr ⟨o_Rm_say, List.forall_mem_cons.mpr ⟨o_Rm_signOf, fun _ h => absurd h List.not_mem_nil⟩⟩⟩⟩⟩⟩⟩⟩⟩⟩⟩⟩⟩⟩⟩⟩⟩⟩⟩⟩⟩⟩⟩⟩⟩⟩⟩⟩⟩⟩⟩⟩⟩⟩⟩⟩⟩⟩⟩⟩
def d_M2 : List c_M0 := [D_Rm_sayPart, D_Rm_sayVar, D_Rm_countXs, D_Rm_isXs, D_Rm_takeLetters, D_Rm_ended, D_Rm_tellFamily, D_Rm_tellBehind, D_Rm_tellObject, D_Rm_tellLambda, D_Rm_tellHead, D_Rm_askOne, D_Rm_tell, D_Rm_canon, D_Rm_type, D_Rm_equal, D_Rm_named, D_Rm_constant, D_Rm_size, D_Rm_out, D_Rm_forget, D_Rm_count, D_Ce_mark, D_Ce_release, D_Ce_make, D_Ce_term, D_Ce_scope, D_Ce_next, D_Ce_binder, D_Ce_link, D_Ce_bind, D_Ce_newVariable, D_Ce_numberOf, D_Ce_enter, D_Ce_append, D_Ce_outward, D_Ck_sort, D_Ck_faultOfDeclaration, D_Ck_faultOfObject, D_Ck_wrong]
theorem o_g2 : ∀ q ∈ d_M2, c_mok q := List.forall_mem_cons.mpr ⟨o_Rm_sayPart, List.forall_mem_cons.mpr ⟨o_Rm_sayVar, List.forall_mem_cons.mpr ⟨o_Rm_countXs, List.forall_mem_cons.mpr ⟨o_Rm_isXs, List.forall_mem_cons.mpr ⟨o_Rm_takeLetters, List.forall_mem_cons.mpr ⟨o_Rm_ended, List.forall_mem_cons.mpr ⟨o_Rm_tellFamily, List.forall_mem_cons.mpr ⟨o_Rm_tellBehind, List.forall_mem_cons.mpr ⟨o_Rm_tellObject, List.forall_mem_cons.mpr ⟨o_Rm_tellLambda, List.forall_mem_cons.mpr ⟨o_Rm_tellHead, List.forall_mem_cons.mpr ⟨o_Rm_askOne, List.forall_mem_cons.mpr ⟨o_Rm_tell, List.forall_mem_cons.mpr ⟨o_Rm_canon, List.forall_mem_cons.mpr ⟨o_Rm_type, List.forall_mem_cons.mpr ⟨o_Rm_equal, List.forall_mem_cons.mpr ⟨o_Rm_named, List.forall_mem_cons.mpr ⟨o_Rm_constant, List.forall_mem_cons.mpr ⟨o_Rm_size, List.forall_mem_cons.mpr ⟨o_Rm_out, List.forall_mem_cons.mpr ⟨o_Rm_forget, List.forall_mem_cons.mpr ⟨o_Rm_count, List.forall_mem_cons.mpr ⟨o_Ce_mark, List.forall_mem_cons.mpr ⟨o_Ce_release, List.forall_mem_cons.mpr ⟨o_Ce_make, List.forall_mem_cons.mpr ⟨o_Ce_term, List.forall_mem_cons.mpr ⟨o_Ce_scope, List.forall_mem_cons.mpr ⟨o_Ce_next, List.forall_mem_cons.mpr ⟨o_Ce_binder, List.forall_mem_cons.mpr ⟨o_Ce_link, List.forall_mem_cons.mpr ⟨o_Ce_bind, List.forall_mem_cons.mpr ⟨o_Ce_newVariable, List.forall_mem_cons.mpr ⟨o_Ce_numberOf, List.forall_mem_cons.mpr ⟨o_Ce_enter, List.forall_mem_cons.mpr ⟨o_Ce_append, List.forall_mem_cons.mpr ⟨o_Ce_outward, List.forall_mem_cons.mpr ⟨o_Ck_sort, List.forall_mem_cons.mpr ⟨o_Ck_faultOfDeclaration, List.forall_mem_cons.mpr ⟨o_Ck_faultOfObject, List.forall_mem_cons.mpr ⟨o_Ck_wrong, fun _ h => absurd h List.not_mem_nil⟩⟩⟩⟩⟩⟩⟩⟩⟩⟩⟩⟩⟩⟩⟩⟩⟩⟩⟩⟩⟩⟩⟩⟩⟩⟩⟩⟩⟩⟩⟩⟩⟩⟩⟩⟩⟩⟩⟩⟩
def d_M3 : List c_M0 := [D_Ck_step, D_Ck_classifier, D_Ck_under, D_Ck_family, D_Ck_isFamilyName, D_Ck_objectsOfFamily, D_Ck_fitting, D_Ck_object, D_Ck_bareObject, D_Ck_applied, D_Co_number, D_Co_full, D_Co_sort, D_Co_typeRoot, D_Co_bodyRoot, D_Co_wanted, D_Co_nameLength, D_Co_nameSign, D_Co_name, D_Co_add, D_Co_drop, D_Co_find, D_Co_isNamed, D_Co_fewestXs, D_Co_anyIsXsAndNumber, D_Co_isXsAndNumber, D_Ju_sameObjects, D_Ju_families, D_Ju_rows, D_Ju_meet, D_Ju_sameLength, D_Ma_shape, D_Ma_shapeScope, D_Ma_head, D_Ma_row, D_Ma_headType, D_Ma_headTypeScope, D_Ma_push, D_Ma_expose, D_Ma_headForm]
theorem o_g3 : ∀ q ∈ d_M3, c_mok q := List.forall_mem_cons.mpr ⟨o_Ck_step, List.forall_mem_cons.mpr ⟨o_Ck_classifier, List.forall_mem_cons.mpr ⟨o_Ck_under, List.forall_mem_cons.mpr ⟨o_Ck_family, List.forall_mem_cons.mpr ⟨o_Ck_isFamilyName, List.forall_mem_cons.mpr ⟨o_Ck_objectsOfFamily, List.forall_mem_cons.mpr ⟨o_Ck_fitting, List.forall_mem_cons.mpr ⟨o_Ck_object, List.forall_mem_cons.mpr ⟨o_Ck_bareObject, List.forall_mem_cons.mpr ⟨o_Ck_applied, List.forall_mem_cons.mpr ⟨o_Co_number, List.forall_mem_cons.mpr ⟨o_Co_full, List.forall_mem_cons.mpr ⟨o_Co_sort, List.forall_mem_cons.mpr ⟨o_Co_typeRoot, List.forall_mem_cons.mpr ⟨o_Co_bodyRoot, List.forall_mem_cons.mpr ⟨o_Co_wanted, List.forall_mem_cons.mpr ⟨o_Co_nameLength, List.forall_mem_cons.mpr ⟨o_Co_nameSign, List.forall_mem_cons.mpr ⟨o_Co_name, List.forall_mem_cons.mpr ⟨o_Co_add, List.forall_mem_cons.mpr ⟨o_Co_drop, List.forall_mem_cons.mpr ⟨o_Co_find, List.forall_mem_cons.mpr ⟨o_Co_isNamed, List.forall_mem_cons.mpr ⟨o_Co_fewestXs, List.forall_mem_cons.mpr ⟨o_Co_anyIsXsAndNumber, List.forall_mem_cons.mpr ⟨o_Co_isXsAndNumber, List.forall_mem_cons.mpr ⟨o_Ju_sameObjects, List.forall_mem_cons.mpr ⟨o_Ju_families, List.forall_mem_cons.mpr ⟨o_Ju_rows, List.forall_mem_cons.mpr ⟨o_Ju_meet, List.forall_mem_cons.mpr ⟨o_Ju_sameLength, List.forall_mem_cons.mpr ⟨o_Ma_shape, List.forall_mem_cons.mpr ⟨o_Ma_shapeScope, List.forall_mem_cons.mpr ⟨o_Ma_head, List.forall_mem_cons.mpr ⟨o_Ma_row, List.forall_mem_cons.mpr ⟨o_Ma_headType, List.forall_mem_cons.mpr ⟨o_Ma_headTypeScope, List.forall_mem_cons.mpr ⟨o_Ma_push, List.forall_mem_cons.mpr ⟨o_Ma_expose, List.forall_mem_cons.mpr ⟨o_Ma_headForm, fun _ h => absurd h List.not_mem_nil⟩⟩⟩⟩⟩⟩⟩⟩⟩⟩⟩⟩⟩⟩⟩⟩⟩⟩⟩⟩⟩⟩⟩⟩⟩⟩⟩⟩⟩⟩⟩⟩⟩⟩⟩⟩⟩⟩⟩⟩
def d_M4 : List c_M0 := [D_Ma_isDefinition, D_Me_begin, D_Me_stepsInAll, D_Me_stepsOfLatest, D_Me_trouble, D_Me_stop, D_Me_step, D_Me_question, D_No_mark, D_No_release, D_No_full, D_No_make, D_No_kind, D_No_left, D_No_right, D_No_sibling, D_No_token, D_No_first, D_No_place, D_No_inBrackets, D_No_isArrow, D_No_setPlace, D_No_setSibling, D_No_becomeFamily, D_Pa_length, D_Pa_signAt, D_Pa_beginDraft, D_Pa_put, D_Pa_keepDraft, D_Re_begin, D_Re_fault, D_Re_namePlace, D_Re_nameLength, D_Re_typeRoot, D_Re_bodyRoot, D_Re_faultOfDeclaration, D_Re_expressionBefore, D_Re_readNewName, D_Re_take, D_Re_refuse]
theorem o_g4 : ∀ q ∈ d_M4, c_mok q := List.forall_mem_cons.mpr ⟨o_Ma_isDefinition, List.forall_mem_cons.mpr ⟨o_Me_begin, List.forall_mem_cons.mpr ⟨o_Me_stepsInAll, List.forall_mem_cons.mpr ⟨o_Me_stepsOfLatest, List.forall_mem_cons.mpr ⟨o_Me_trouble, List.forall_mem_cons.mpr ⟨o_Me_stop, List.forall_mem_cons.mpr ⟨o_Me_step, List.forall_mem_cons.mpr ⟨o_Me_question, List.forall_mem_cons.mpr ⟨o_No_mark, List.forall_mem_cons.mpr ⟨o_No_release, List.forall_mem_cons.mpr ⟨o_No_full, List.forall_mem_cons.mpr ⟨o_No_make, List.forall_mem_cons.mpr ⟨o_No_kind, List.forall_mem_cons.mpr ⟨o_No_left, List.forall_mem_cons.mpr ⟨o_No_right, List.forall_mem_cons.mpr ⟨o_No_sibling, List.forall_mem_cons.mpr ⟨o_No_token, List.forall_mem_cons.mpr ⟨o_No_first, List.forall_mem_cons.mpr ⟨o_No_place, List.forall_mem_cons.mpr ⟨o_No_inBrackets, List.forall_mem_cons.mpr ⟨o_No_isArrow, List.forall_mem_cons.mpr ⟨o_No_setPlace, List.forall_mem_cons.mpr ⟨o_No_setSibling, List.forall_mem_cons.mpr ⟨o_No_becomeFamily, List.forall_mem_cons.mpr ⟨o_Pa_length, List.forall_mem_cons.mpr ⟨o_Pa_signAt, List.forall_mem_cons.mpr ⟨o_Pa_beginDraft, List.forall_mem_cons.mpr ⟨o_Pa_put, List.forall_mem_cons.mpr ⟨o_Pa_keepDraft, List.forall_mem_cons.mpr ⟨o_Re_begin, List.forall_mem_cons.mpr ⟨o_Re_fault, List.forall_mem_cons.mpr ⟨o_Re_namePlace, List.forall_mem_cons.mpr ⟨o_Re_nameLength, List.forall_mem_cons.mpr ⟨o_Re_typeRoot, List.forall_mem_cons.mpr ⟨o_Re_bodyRoot, List.forall_mem_cons.mpr ⟨o_Re_faultOfDeclaration, List.forall_mem_cons.mpr ⟨o_Re_expressionBefore, List.forall_mem_cons.mpr ⟨o_Re_readNewName, List.forall_mem_cons.mpr ⟨o_Re_take, List.forall_mem_cons.mpr ⟨o_Re_refuse, fun _ h => absurd h List.not_mem_nil⟩⟩⟩⟩⟩⟩⟩⟩⟩⟩⟩⟩⟩⟩⟩⟩⟩⟩⟩⟩⟩⟩⟩⟩⟩⟩⟩⟩⟩⟩⟩⟩⟩⟩⟩⟩⟩⟩⟩⟩
def d_M5 : List c_M0 := [D_Re_wholeExpression, D_Re_expression, D_Re_binding, D_Re_arrow, D_Re_application, D_Re_part, D_Re_startsPart, D_Re_countPart, D_Re_nameNode, D_Re_node, D_Re_enterScope, D_Re_leaveScope, D_Ta_append, D_Ta_length, D_Ta_empty, D_Ta_signAt, D_Ta_token, D_Ta_place, D_Ta_wordLength, D_Ta_atEnd, D_Ta_rewind, D_Ta_advance, D_Ta_readWord, D_Ta_sameSigns, D_Ta_isBlank, D_Ta_isMark, D_Wr_write, D_Wr_family, D_Wr_binding, D_Wr_object, D_Wr_putHead, D_Wr_objects, D_Wr_putName, D_Wr_putVariable]
theorem o_g5 : ∀ q ∈ d_M5, c_mok q := List.forall_mem_cons.mpr ⟨o_Re_wholeExpression, List.forall_mem_cons.mpr ⟨o_Re_expression, List.forall_mem_cons.mpr ⟨o_Re_binding, List.forall_mem_cons.mpr ⟨o_Re_arrow, List.forall_mem_cons.mpr ⟨o_Re_application, List.forall_mem_cons.mpr ⟨o_Re_part, List.forall_mem_cons.mpr ⟨o_Re_startsPart, List.forall_mem_cons.mpr ⟨o_Re_countPart, List.forall_mem_cons.mpr ⟨o_Re_nameNode, List.forall_mem_cons.mpr ⟨o_Re_node, List.forall_mem_cons.mpr ⟨o_Re_enterScope, List.forall_mem_cons.mpr ⟨o_Re_leaveScope, List.forall_mem_cons.mpr ⟨o_Ta_append, List.forall_mem_cons.mpr ⟨o_Ta_length, List.forall_mem_cons.mpr ⟨o_Ta_empty, List.forall_mem_cons.mpr ⟨o_Ta_signAt, List.forall_mem_cons.mpr ⟨o_Ta_token, List.forall_mem_cons.mpr ⟨o_Ta_place, List.forall_mem_cons.mpr ⟨o_Ta_wordLength, List.forall_mem_cons.mpr ⟨o_Ta_atEnd, List.forall_mem_cons.mpr ⟨o_Ta_rewind, List.forall_mem_cons.mpr ⟨o_Ta_advance, List.forall_mem_cons.mpr ⟨o_Ta_readWord, List.forall_mem_cons.mpr ⟨o_Ta_sameSigns, List.forall_mem_cons.mpr ⟨o_Ta_isBlank, List.forall_mem_cons.mpr ⟨o_Ta_isMark, List.forall_mem_cons.mpr ⟨o_Wr_write, List.forall_mem_cons.mpr ⟨o_Wr_family, List.forall_mem_cons.mpr ⟨o_Wr_binding, List.forall_mem_cons.mpr ⟨o_Wr_object, List.forall_mem_cons.mpr ⟨o_Wr_putHead, List.forall_mem_cons.mpr ⟨o_Wr_objects, List.forall_mem_cons.mpr ⟨o_Wr_putName, List.forall_mem_cons.mpr ⟨o_Wr_putVariable, fun _ h => absurd h List.not_mem_nil⟩⟩⟩⟩⟩⟩⟩⟩⟩⟩⟩⟩⟩⟩⟩⟩⟩⟩⟩⟩⟩⟩⟩⟩⟩⟩⟩⟩⟩⟩⟩⟩⟩⟩
theorem d_M_eq : d_M = d_M0 ++ (d_M1 ++ (d_M2 ++ (d_M3 ++ (d_M4 ++ (d_M5))))) := rfl
theorem o_all : ∀ q ∈ d_M, c_mok q := by
  rw [d_M_eq]
  exact List.forall_mem_append.mpr ⟨o_g0, List.forall_mem_append.mpr ⟨o_g1, List.forall_mem_append.mpr ⟨o_g2, List.forall_mem_append.mpr ⟨o_g3, List.forall_mem_append.mpr ⟨o_g4, o_g5⟩⟩⟩⟩⟩
