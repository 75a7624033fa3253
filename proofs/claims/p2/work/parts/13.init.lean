theorem u_good {C : String} {T : u_T} {N : Nat} {w : Cond} (hw : w ∈ u_ws C T N) : goodWord w = true := by
  obtain ⟨k, -, rfl⟩ := List.mem_map.mp hw
  unfold u_lay
  split <;> rfl
theorem g_Ce : ∀ w ∈ u_ws R_Ce F_Ce 6, w ∈ lw_g := fun w hw => lw_g_of (i_Ce w hw) (u_good hw)
theorem g_Ck : ∀ w ∈ u_ws R_Ck F_Ck 8, w ∈ lw_g := fun w hw => lw_g_of (i_Ck w hw) (u_good hw)
theorem g_Co : ∀ w ∈ u_ws R_Co F_Co 8, w ∈ lw_g := fun w hw => lw_g_of (i_Co w hw) (u_good hw)
theorem g_Ju : ∀ w ∈ u_ws R_Ju F_Ju 9, w ∈ lw_g := fun w hw => lw_g_of (i_Ju w hw) (u_good hw)
theorem g_Ma : ∀ w ∈ u_ws R_Ma F_Ma 8, w ∈ lw_g := fun w hw => lw_g_of (i_Ma w hw) (u_good hw)
theorem g_Me : ∀ w ∈ u_ws R_Me F_Me 3, w ∈ lw_g := fun w hw => lw_g_of (i_Me w hw) (u_good hw)
theorem g_No : ∀ w ∈ u_ws R_No F_No 8, w ∈ lw_g := fun w hw => lw_g_of (i_No w hw) (u_good hw)
theorem g_Pa : ∀ w ∈ u_ws R_Pa F_Pa 5, w ∈ lw_g := fun w hw => lw_g_of (i_Pa w hw) (u_good hw)
theorem g_Re : ∀ w ∈ u_ws R_Re F_Re 12, w ∈ lw_g := fun w hw => lw_g_of (i_Re w hw) (u_good hw)
theorem g_Ta : ∀ w ∈ u_ws R_Ta F_Ta 5, w ∈ lw_g := fun w hw => lw_g_of (i_Ta w hw) (u_good hw)
theorem g_Wr : ∀ w ∈ u_ws R_Wr F_Wr 7, w ∈ lw_g := fun w hw => lw_g_of (i_Wr w hw) (u_good hw)
theorem g_Fb : ∀ w ∈ u_ws R_Fb F_Fb 10, w ∈ lw_g := fun w hw => lw_g_of (i_Fb w hw) (u_good hw)
theorem g_Rm : ∀ w ∈ u_ws R_Rm F_Rm 71, w ∈ lw_g := fun w hw => lw_g_of (i_Rm w hw) (u_good hw)
def w_Me (q0  : Nat) (u : (Nat → Nat) × (Nat → ClassId)) : va_W := [(q0, .inr (5, [.int 0, .int 0, .int 0]))]
def ty_Me (u : (Nat → Nat) × (Nat → ClassId)) : List (ClassId × FieldType) := []
set_option maxHeartbeats 4000000 in
set_option maxRecDepth 100000 in
theorem c_Me_init (l : Launch) (D : va_G) (q0  sz : Nat) : Met l ⟨R_Me, "<init>", "()V"⟩ (Cond.code ⟨R_Me, "<init>", "()V"⟩ prog_7_method_1_code 1 none :: lw_g) ({ frames := 1, cells := 0, slots := 0, locals := 40 }) (va_Pc [.ref q0] (fun U => U.heap.size = sz ∧ va_P D d_CL [(q0, .inr (5, [.int 0, .int 0, .int 0]))] U.heap ∧ va_K D d_CL [] U ∧ va_D (fun _ => True) [(q0, .inr (5, [.int 0, .int 0, .int 0]))])) (va_Qv (S := (Nat → Nat) × (Nat → ClassId)) (fun _ => True) (fun u t => va_P D d_CL (w_Me q0 u) t.heap ∧ va_K D d_CL (ty_Me u) t ∧ va_D (va_A [(q0, .inr (5, [.int 0, .int 0, .int 0]))] sz) (w_Me q0 u)) (va_A [(q0, .inr (5, [.int 0, .int 0, .int 0]))] sz)) 0 0 (va_A [(q0, .inr (5, [.int 0, .int 0, .int 0]))] sz) := by
  refine Met.ofW (cc := prog_7_method_1_code) (maxL := 1) (ret := none) (by decide) rfl ?_
  intro p e s m args below meth c s₁ B hml hv
  obtain ⟨rfl, hsz, hP, hK, hD0⟩ := hv
  have hx := B.exec
  have hb := B.bytes
  have hr := B.returns
  have hts0 := atoms_spec (ws := Cond.code ⟨R_Me, "<init>", "()V"⟩ prog_7_method_1_code 1 none :: lw_g) B.pre
  have hts : ∀ w ∈ lw_g, w.before _ s = true := fun w hw => hts0 w (List.mem_cons_of_mem _ hw)
  have hown : s.vm.findClass R_Me = some m.cls := findClass_of_methodNamed B.named
  have hlocks := B.notSynchronized
  have hin : meth.name = "<init>" := (name_of_methodNamed B.named B.method).1
  subst hsz
  have hD := hD0.self (sz := s.heap.size)
  generalize hAe : va_A [(q0, .inr (5, [.int 0, .int 0, .int 0]))] s.heap.size = A at hD ⊢
  have hA : ∀ q : Nat, s.heap.size ≤ q → A q := fun q h => by rw [← hAe]; exact Or.inr h
  have hS : va_S A s.heap s.heap [] := va_S.rf
  have hl := lv_entry ([.ref q0]) (n := 1) (Nat.le_of_ble_eq_true rfl)
  rw [lg_entry_eq]
  generalize (lg_sl ([.ref q0]) ++ List.replicate (1 - (lg_sl ([.ref q0])).length) Slot.unset).toArray = ls at hl ⊢
  have hl : lv_has ls 1 [(0, .ref q0)] := hl
  refine lv_aload_n hx hb (show decode prog_7_method_1_code 0 = .ok (.aload_n 0, 1) by decide +kernel) rfl (lv_at hl 0 rfl) ?_
  refine W.objInit hx hb hown (hts _ (lw_g_of (List.mem_of_getElem? (i := 227) (by decide +kernel)) rfl)) (hts _ (lw_g_of (List.mem_of_getElem? (i := 134) (by decide +kernel)) rfl)) (hts _ (lw_g_of (List.mem_of_getElem? (i := 135) (by decide +kernel)) rfl)) rfl (by rw [hml]; exact hl.1) rfl (show decode prog_7_method_1_code 1 = .ok (.invokespecial 3, 3) by decide +kernel) (Nat.le_of_ble_eq_true rfl) (Nat.le_of_ble_eq_true rfl) ?_
  refine W.eq (g2 := F0 m 4 ls []) rfl ?_
  exact W.vret hx hb hr (fun t ht hW => ⟨⟨(fun k => match k with
    | _ => 0, fun k => match k with
    | _ => D.1 0), rfl, trivial, show va_P D d_CL [(q0, .inr (5, [.int 0, .int 0, .int 0]))] t.heap by rw [ht]; exact hP, va_K.moved hW.alike hK, hD⟩, hS.F ht⟩) hS.2.2 (show decode prog_7_method_1_code 4 = .ok (.return_, 1) by decide +kernel)
def w_Ta (q0  : Nat) (u : (Nat → Nat) × (Nat → ClassId)) : va_W := [(q0, .inr (9, [.ref (u.1 0), .int 0, .int 0, .int 0, .int 0])), (u.1 0, .inl (u.2 0, (4000, .inl fun _ => 0)))]
def ty_Ta (u : (Nat → Nat) × (Nat → ClassId)) : List (ClassId × FieldType) := [(u.2 0, .char)]
set_option maxHeartbeats 4000000 in
set_option maxRecDepth 100000 in
theorem c_Ta_init (l : Launch) (D : va_G) (q0  sz : Nat) : Met l ⟨R_Ta, "<init>", "()V"⟩ (Cond.code ⟨R_Ta, "<init>", "()V"⟩ prog_11_method_1_code 1 none :: lw_g) ({ frames := 1, cells := 1, slots := 4000, locals := 40 }) (va_Pc [.ref q0] (fun U => U.heap.size = sz ∧ va_P D d_CL [(q0, .inr (9, [.null, .int 0, .int 0, .int 0, .int 0]))] U.heap ∧ va_K D d_CL [] U ∧ va_D (fun _ => True) [(q0, .inr (9, [.null, .int 0, .int 0, .int 0, .int 0]))])) (va_Qv (S := (Nat → Nat) × (Nat → ClassId)) (fun _ => True) (fun u t => va_P D d_CL (w_Ta q0 u) t.heap ∧ va_K D d_CL (ty_Ta u) t ∧ va_D (va_A [(q0, .inr (9, [.null, .int 0, .int 0, .int 0, .int 0]))] sz) (w_Ta q0 u)) (va_A [(q0, .inr (9, [.null, .int 0, .int 0, .int 0, .int 0]))] sz)) 1 4000 (va_A [(q0, .inr (9, [.null, .int 0, .int 0, .int 0, .int 0]))] sz) := by
  refine Met.ofW (cc := prog_11_method_1_code) (maxL := 1) (ret := none) (by decide) rfl ?_
  intro p e s m args below meth c s₁ B hml hv
  obtain ⟨rfl, hsz, hP, hK, hD0⟩ := hv
  have hx := B.exec
  have hb := B.bytes
  have hr := B.returns
  have hts0 := atoms_spec (ws := Cond.code ⟨R_Ta, "<init>", "()V"⟩ prog_11_method_1_code 1 none :: lw_g) B.pre
  have hts : ∀ w ∈ lw_g, w.before _ s = true := fun w hw => hts0 w (List.mem_cons_of_mem _ hw)
  have hown : s.vm.findClass R_Ta = some m.cls := findClass_of_methodNamed B.named
  have hlocks := B.notSynchronized
  have hin : meth.name = "<init>" := (name_of_methodNamed B.named B.method).1
  subst hsz
  have hD := hD0.self (sz := s.heap.size)
  generalize hAe : va_A [(q0, .inr (9, [.null, .int 0, .int 0, .int 0, .int 0]))] s.heap.size = A at hD ⊢
  have hA : ∀ q : Nat, s.heap.size ≤ q → A q := fun q h => by rw [← hAe]; exact Or.inr h
  have hS : va_S A s.heap s.heap [] := va_S.rf
  have hl := lv_entry ([.ref q0]) (n := 1) (Nat.le_of_ble_eq_true rfl)
  rw [lg_entry_eq]
  generalize (lg_sl ([.ref q0]) ++ List.replicate (1 - (lg_sl ([.ref q0])).length) Slot.unset).toArray = ls at hl ⊢
  have hl : lv_has ls 1 [(0, .ref q0)] := hl
  refine lv_aload_n hx hb (show decode prog_11_method_1_code 0 = .ok (.aload_n 0, 1) by decide +kernel) rfl (lv_at hl 0 rfl) ?_
  refine W.objInit hx hb hown (hts _ (lw_g_of (List.mem_of_getElem? (i := 141) (by decide +kernel)) rfl)) (hts _ (lw_g_of (List.mem_of_getElem? (i := 134) (by decide +kernel)) rfl)) (hts _ (lw_g_of (List.mem_of_getElem? (i := 135) (by decide +kernel)) rfl)) rfl (by rw [hml]; exact hl.1) rfl (show decode prog_11_method_1_code 1 = .ok (.invokespecial 1, 3) by decide +kernel) (Nat.le_of_ble_eq_true rfl) (Nat.le_of_ble_eq_true rfl) ?_
  refine W.eq (g2 := F0 m 4 ls []) rfl ?_
  refine lv_aload_n hx hb (show decode prog_11_method_1_code 4 = .ok (.aload_n 0, 1) by decide +kernel) rfl (lv_at hl 0 rfl) ?_
  refine lv_sipush (v := 4000) hx hb (show decode prog_11_method_1_code 5 = .ok (.sipush 4000, 3) by decide +kernel) (by decide) ?_
  refine va_newa (ty := .char) (N' := 4000) (a0 := (4000, .inl fun _ => 0)) hx hb (hts _ (lw_g_of (List.mem_of_getElem? (i := 158) (by decide +kernel)) rfl)) rfl hK hP hD hS hA (fun _ => rfl) (by decide) (by decide) (by decide) (Nat.le_of_ble_eq_true rfl) (Nat.le_of_ble_eq_true rfl) (show decode prog_11_method_1_code 8 = .ok (.newarray .char, 2) by decide +kernel) (fun q1 k1 H hK hP hD hS => ?_)
  have hP : va_P D d_CL [(q0, .inr (9, [.null, .int 0, .int 0, .int 0, .int 0])), (q1, .inl (k1, (4000, .inl fun _ => 0)))] H := hP
  have hD : va_D A [(q0, .inr (9, [.null, .int 0, .int 0, .int 0, .int 0])), (q1, .inl (k1, (4000, .inl fun _ => 0)))] := hD
  have hK : va_K D d_CL [(k1, .char)] s := hK
  refine W.widen (k := 1) (n := 4000) (Nat.le_of_ble_eq_true rfl) (Nat.le_of_ble_eq_true rfl) ?_
  refine va_putF (ci := 9) (v := .ref q1) (ty := .array .char) (C := R_Ta) (T := F_Ta) (N := 5) hx hb hts g_Ta t_Ta t_Ta_ok n_Ta hown hK hP hD hS 0 rfl rfl 0 (by decide) (hts _ (lw_g_of (List.mem_of_getElem? (i := 142) (by decide +kernel)) rfl)) (fun _ h9 => h9) rfl hin rfl (by decide +kernel) rfl rfl (Nat.le_of_ble_eq_true rfl) (show decode prog_11_method_1_code 10 = .ok (.putfield 9, 3) by decide +kernel) (fun H locs hP hD hS => ?_)
  have hP : va_P D d_CL [(q0, .inr (9, [.ref q1, .int 0, .int 0, .int 0, .int 0])), (q1, .inl (k1, (4000, .inl fun _ => 0)))] H := hP
  have hD : va_D A [(q0, .inr (9, [.ref q1, .int 0, .int 0, .int 0, .int 0])), (q1, .inl (k1, (4000, .inl fun _ => 0)))] := hD
  exact W.vret hx hb hr (fun t ht hW => ⟨⟨(fun k => match k with
    | 0 => q1
    | _ => 0, fun k => match k with
    | 0 => k1
    | _ => k1), rfl, trivial, show va_P D d_CL [(q0, .inr (9, [.ref q1, .int 0, .int 0, .int 0, .int 0])), (q1, .inl (k1, (4000, .inl fun _ => 0)))] t.heap by rw [ht]; exact hP, va_K.moved hW.alike hK, hD⟩, hS.F ht⟩) hS.2.2 (show decode prog_11_method_1_code 13 = .ok (.return_, 1) by decide +kernel)
def w_No (q0  : Nat) (u : (Nat → Nat) × (Nat → ClassId)) : va_W := [(q0, .inr (6, [.ref (u.1 0), .ref (u.1 1), .ref (u.1 2), .ref (u.1 3), .ref (u.1 4), .ref (u.1 5), .ref (u.1 6), .int 1])), (u.1 0, .inl (u.2 0, (12800, .inl fun _ => 0))), (u.1 1, .inl (u.2 1, (12800, .inl fun _ => 0))), (u.1 2, .inl (u.2 2, (12800, .inl fun _ => 0))), (u.1 3, .inl (u.2 3, (12800, .inl fun _ => 0))), (u.1 4, .inl (u.2 4, (12800, .inl fun _ => 0))), (u.1 5, .inl (u.2 5, (12800, .inl fun _ => 0))), (u.1 6, .inl (u.2 6, (12800, .inl fun _ => 0)))]
def ty_No (u : (Nat → Nat) × (Nat → ClassId)) : List (ClassId × FieldType) := [(u.2 0, .int), (u.2 1, .int), (u.2 2, .int), (u.2 3, .int), (u.2 4, .int), (u.2 5, .int), (u.2 6, .int)]
set_option maxHeartbeats 4000000 in
set_option maxRecDepth 100000 in
theorem c_No_init (l : Launch) (D : va_G) (q0  sz : Nat) : Met l ⟨R_No, "<init>", "()V"⟩ (Cond.code ⟨R_No, "<init>", "()V"⟩ prog_8_method_1_code 1 none :: lw_g) ({ frames := 1, cells := 7, slots := 89600, locals := 40 }) (va_Pc [.ref q0] (fun U => U.heap.size = sz ∧ va_P D d_CL [(q0, .inr (6, [.null, .null, .null, .null, .null, .null, .null, .int 0]))] U.heap ∧ va_K D d_CL [] U ∧ va_D (fun _ => True) [(q0, .inr (6, [.null, .null, .null, .null, .null, .null, .null, .int 0]))])) (va_Qv (S := (Nat → Nat) × (Nat → ClassId)) (fun _ => True) (fun u t => va_P D d_CL (w_No q0 u) t.heap ∧ va_K D d_CL (ty_No u) t ∧ va_D (va_A [(q0, .inr (6, [.null, .null, .null, .null, .null, .null, .null, .int 0]))] sz) (w_No q0 u)) (va_A [(q0, .inr (6, [.null, .null, .null, .null, .null, .null, .null, .int 0]))] sz)) 7 89600 (va_A [(q0, .inr (6, [.null, .null, .null, .null, .null, .null, .null, .int 0]))] sz) := by
  refine Met.ofW (cc := prog_8_method_1_code) (maxL := 1) (ret := none) (by decide) rfl ?_
  intro p e s m args below meth c s₁ B hml hv
  obtain ⟨rfl, hsz, hP, hK, hD0⟩ := hv
  have hx := B.exec
  have hb := B.bytes
  have hr := B.returns
  have hts0 := atoms_spec (ws := Cond.code ⟨R_No, "<init>", "()V"⟩ prog_8_method_1_code 1 none :: lw_g) B.pre
  have hts : ∀ w ∈ lw_g, w.before _ s = true := fun w hw => hts0 w (List.mem_cons_of_mem _ hw)
  have hown : s.vm.findClass R_No = some m.cls := findClass_of_methodNamed B.named
  have hlocks := B.notSynchronized
  have hin : meth.name = "<init>" := (name_of_methodNamed B.named B.method).1
  subst hsz
  have hD := hD0.self (sz := s.heap.size)
  generalize hAe : va_A [(q0, .inr (6, [.null, .null, .null, .null, .null, .null, .null, .int 0]))] s.heap.size = A at hD ⊢
  have hA : ∀ q : Nat, s.heap.size ≤ q → A q := fun q h => by rw [← hAe]; exact Or.inr h
  have hS : va_S A s.heap s.heap [] := va_S.rf
  have hl := lv_entry ([.ref q0]) (n := 1) (Nat.le_of_ble_eq_true rfl)
  rw [lg_entry_eq]
  generalize (lg_sl ([.ref q0]) ++ List.replicate (1 - (lg_sl ([.ref q0])).length) Slot.unset).toArray = ls at hl ⊢
  have hl : lv_has ls 1 [(0, .ref q0)] := hl
  refine lv_aload_n hx hb (show decode prog_8_method_1_code 0 = .ok (.aload_n 0, 1) by decide +kernel) rfl (lv_at hl 0 rfl) ?_
  refine W.objInit hx hb hown (hts _ (lw_g_of (List.mem_of_getElem? (i := 164) (by decide +kernel)) rfl)) (hts _ (lw_g_of (List.mem_of_getElem? (i := 134) (by decide +kernel)) rfl)) (hts _ (lw_g_of (List.mem_of_getElem? (i := 135) (by decide +kernel)) rfl)) rfl (by rw [hml]; exact hl.1) rfl (show decode prog_8_method_1_code 1 = .ok (.invokespecial 1, 3) by decide +kernel) (Nat.le_of_ble_eq_true rfl) (Nat.le_of_ble_eq_true rfl) ?_
  refine W.eq (g2 := F0 m 4 ls []) rfl ?_
  refine lv_aload_n hx hb (show decode prog_8_method_1_code 4 = .ok (.aload_n 0, 1) by decide +kernel) rfl (lv_at hl 0 rfl) ?_
  refine lv_sipush (v := 12800) hx hb (show decode prog_8_method_1_code 5 = .ok (.sipush 12800, 3) by decide +kernel) (by decide) ?_
  refine va_newa (ty := .int) (N' := 12800) (a0 := (12800, .inl fun _ => 0)) hx hb (hts _ (lw_g_of (List.mem_of_getElem? (i := 190) (by decide +kernel)) rfl)) rfl hK hP hD hS hA (fun _ => rfl) (by decide) (by decide) (by decide) (Nat.le_of_ble_eq_true rfl) (Nat.le_of_ble_eq_true rfl) (show decode prog_8_method_1_code 8 = .ok (.newarray .int, 2) by decide +kernel) (fun q1 k1 H hK hP hD hS => ?_)
  have hP : va_P D d_CL [(q0, .inr (6, [.null, .null, .null, .null, .null, .null, .null, .int 0])), (q1, .inl (k1, (12800, .inl fun _ => 0)))] H := hP
  have hD : va_D A [(q0, .inr (6, [.null, .null, .null, .null, .null, .null, .null, .int 0])), (q1, .inl (k1, (12800, .inl fun _ => 0)))] := hD
  have hK : va_K D d_CL [(k1, .int)] s := hK
  refine W.widen (k := 1) (n := 12800) (Nat.le_of_ble_eq_true rfl) (Nat.le_of_ble_eq_true rfl) ?_
  refine va_putF (ci := 6) (v := .ref q1) (ty := .array .int) (C := R_No) (T := F_No) (N := 8) hx hb hts g_No t_No t_No_ok n_No hown hK hP hD hS 0 rfl rfl 0 (by decide) (hts _ (lw_g_of (List.mem_of_getElem? (i := 165) (by decide +kernel)) rfl)) (fun _ h9 => h9) rfl hin rfl (by decide +kernel) rfl rfl (Nat.le_of_ble_eq_true rfl) (show decode prog_8_method_1_code 10 = .ok (.putfield 9, 3) by decide +kernel) (fun H locs hP hD hS => ?_)
  have hP : va_P D d_CL [(q0, .inr (6, [.ref q1, .null, .null, .null, .null, .null, .null, .int 0])), (q1, .inl (k1, (12800, .inl fun _ => 0)))] H := hP
  have hD : va_D A [(q0, .inr (6, [.ref q1, .null, .null, .null, .null, .null, .null, .int 0])), (q1, .inl (k1, (12800, .inl fun _ => 0)))] := hD
  refine lv_aload_n hx hb (show decode prog_8_method_1_code 13 = .ok (.aload_n 0, 1) by decide +kernel) rfl (lv_at hl 0 rfl) ?_
  refine lv_sipush (v := 12800) hx hb (show decode prog_8_method_1_code 14 = .ok (.sipush 12800, 3) by decide +kernel) (by decide) ?_
  refine va_newa (ty := .int) (N' := 12800) (a0 := (12800, .inl fun _ => 0)) hx hb (hts _ (lw_g_of (List.mem_of_getElem? (i := 190) (by decide +kernel)) rfl)) rfl hK hP hD hS hA (fun _ => rfl) (by decide) (by decide) (by decide) (Nat.le_of_ble_eq_true rfl) (Nat.le_of_ble_eq_true rfl) (show decode prog_8_method_1_code 17 = .ok (.newarray .int, 2) by decide +kernel) (fun q2 k2 H hK hP hD hS => ?_)
  have hP : va_P D d_CL [(q0, .inr (6, [.ref q1, .null, .null, .null, .null, .null, .null, .int 0])), (q1, .inl (k1, (12800, .inl fun _ => 0))), (q2, .inl (k2, (12800, .inl fun _ => 0)))] H := hP
  have hD : va_D A [(q0, .inr (6, [.ref q1, .null, .null, .null, .null, .null, .null, .int 0])), (q1, .inl (k1, (12800, .inl fun _ => 0))), (q2, .inl (k2, (12800, .inl fun _ => 0)))] := hD
  have hK : va_K D d_CL [(k1, .int), (k2, .int)] s := hK
  refine W.widen (k := 2) (n := 25600) (Nat.le_of_ble_eq_true rfl) (Nat.le_of_ble_eq_true rfl) ?_
  refine va_putF (ci := 6) (v := .ref q2) (ty := .array .int) (C := R_No) (T := F_No) (N := 8) hx hb hts g_No t_No t_No_ok n_No hown hK hP hD hS 0 rfl rfl 1 (by decide) (hts _ (lw_g_of (List.mem_of_getElem? (i := 166) (by decide +kernel)) rfl)) (fun _ h9 => h9) rfl hin rfl (by decide +kernel) rfl rfl (Nat.le_of_ble_eq_true rfl) (show decode prog_8_method_1_code 19 = .ok (.putfield 13, 3) by decide +kernel) (fun H locs hP hD hS => ?_)
  have hP : va_P D d_CL [(q0, .inr (6, [.ref q1, .ref q2, .null, .null, .null, .null, .null, .int 0])), (q1, .inl (k1, (12800, .inl fun _ => 0))), (q2, .inl (k2, (12800, .inl fun _ => 0)))] H := hP
  have hD : va_D A [(q0, .inr (6, [.ref q1, .ref q2, .null, .null, .null, .null, .null, .int 0])), (q1, .inl (k1, (12800, .inl fun _ => 0))), (q2, .inl (k2, (12800, .inl fun _ => 0)))] := hD
  refine lv_aload_n hx hb (show decode prog_8_method_1_code 22 = .ok (.aload_n 0, 1) by decide +kernel) rfl (lv_at hl 0 rfl) ?_
  refine lv_sipush (v := 12800) hx hb (show decode prog_8_method_1_code 23 = .ok (.sipush 12800, 3) by decide +kernel) (by decide) ?_
  refine va_newa (ty := .int) (N' := 12800) (a0 := (12800, .inl fun _ => 0)) hx hb (hts _ (lw_g_of (List.mem_of_getElem? (i := 190) (by decide +kernel)) rfl)) rfl hK hP hD hS hA (fun _ => rfl) (by decide) (by decide) (by decide) (Nat.le_of_ble_eq_true rfl) (Nat.le_of_ble_eq_true rfl) (show decode prog_8_method_1_code 26 = .ok (.newarray .int, 2) by decide +kernel) (fun q3 k3 H hK hP hD hS => ?_)
  have hP : va_P D d_CL [(q0, .inr (6, [.ref q1, .ref q2, .null, .null, .null, .null, .null, .int 0])), (q1, .inl (k1, (12800, .inl fun _ => 0))), (q2, .inl (k2, (12800, .inl fun _ => 0))), (q3, .inl (k3, (12800, .inl fun _ => 0)))] H := hP
  have hD : va_D A [(q0, .inr (6, [.ref q1, .ref q2, .null, .null, .null, .null, .null, .int 0])), (q1, .inl (k1, (12800, .inl fun _ => 0))), (q2, .inl (k2, (12800, .inl fun _ => 0))), (q3, .inl (k3, (12800, .inl fun _ => 0)))] := hD
  have hK : va_K D d_CL [(k1, .int), (k2, .int), (k3, .int)] s := hK
  refine W.widen (k := 3) (n := 38400) (Nat.le_of_ble_eq_true rfl) (Nat.le_of_ble_eq_true rfl) ?_
  refine va_putF (ci := 6) (v := .ref q3) (ty := .array .int) (C := R_No) (T := F_No) (N := 8) hx hb hts g_No t_No t_No_ok n_No hown hK hP hD hS 0 rfl rfl 2 (by decide) (hts _ (lw_g_of (List.mem_of_getElem? (i := 167) (by decide +kernel)) rfl)) (fun _ h9 => h9) rfl hin rfl (by decide +kernel) rfl rfl (Nat.le_of_ble_eq_true rfl) (show decode prog_8_method_1_code 28 = .ok (.putfield 16, 3) by decide +kernel) (fun H locs hP hD hS => ?_)
  have hP : va_P D d_CL [(q0, .inr (6, [.ref q1, .ref q2, .ref q3, .null, .null, .null, .null, .int 0])), (q1, .inl (k1, (12800, .inl fun _ => 0))), (q2, .inl (k2, (12800, .inl fun _ => 0))), (q3, .inl (k3, (12800, .inl fun _ => 0)))] H := hP
  have hD : va_D A [(q0, .inr (6, [.ref q1, .ref q2, .ref q3, .null, .null, .null, .null, .int 0])), (q1, .inl (k1, (12800, .inl fun _ => 0))), (q2, .inl (k2, (12800, .inl fun _ => 0))), (q3, .inl (k3, (12800, .inl fun _ => 0)))] := hD
  refine lv_aload_n hx hb (show decode prog_8_method_1_code 31 = .ok (.aload_n 0, 1) by decide +kernel) rfl (lv_at hl 0 rfl) ?_
  refine lv_sipush (v := 12800) hx hb (show decode prog_8_method_1_code 32 = .ok (.sipush 12800, 3) by decide +kernel) (by decide) ?_
  refine va_newa (ty := .int) (N' := 12800) (a0 := (12800, .inl fun _ => 0)) hx hb (hts _ (lw_g_of (List.mem_of_getElem? (i := 190) (by decide +kernel)) rfl)) rfl hK hP hD hS hA (fun _ => rfl) (by decide) (by decide) (by decide) (Nat.le_of_ble_eq_true rfl) (Nat.le_of_ble_eq_true rfl) (show decode prog_8_method_1_code 35 = .ok (.newarray .int, 2) by decide +kernel) (fun q4 k4 H hK hP hD hS => ?_)
  have hP : va_P D d_CL [(q0, .inr (6, [.ref q1, .ref q2, .ref q3, .null, .null, .null, .null, .int 0])), (q1, .inl (k1, (12800, .inl fun _ => 0))), (q2, .inl (k2, (12800, .inl fun _ => 0))), (q3, .inl (k3, (12800, .inl fun _ => 0))), (q4, .inl (k4, (12800, .inl fun _ => 0)))] H := hP
  have hD : va_D A [(q0, .inr (6, [.ref q1, .ref q2, .ref q3, .null, .null, .null, .null, .int 0])), (q1, .inl (k1, (12800, .inl fun _ => 0))), (q2, .inl (k2, (12800, .inl fun _ => 0))), (q3, .inl (k3, (12800, .inl fun _ => 0))), (q4, .inl (k4, (12800, .inl fun _ => 0)))] := hD
  have hK : va_K D d_CL [(k1, .int), (k2, .int), (k3, .int), (k4, .int)] s := hK
  refine W.widen (k := 4) (n := 51200) (Nat.le_of_ble_eq_true rfl) (Nat.le_of_ble_eq_true rfl) ?_
  refine va_putF (ci := 6) (v := .ref q4) (ty := .array .int) (C := R_No) (T := F_No) (N := 8) hx hb hts g_No t_No t_No_ok n_No hown hK hP hD hS 0 rfl rfl 3 (by decide) (hts _ (lw_g_of (List.mem_of_getElem? (i := 168) (by decide +kernel)) rfl)) (fun _ h9 => h9) rfl hin rfl (by decide +kernel) rfl rfl (Nat.le_of_ble_eq_true rfl) (show decode prog_8_method_1_code 37 = .ok (.putfield 19, 3) by decide +kernel) (fun H locs hP hD hS => ?_)
  have hP : va_P D d_CL [(q0, .inr (6, [.ref q1, .ref q2, .ref q3, .ref q4, .null, .null, .null, .int 0])), (q1, .inl (k1, (12800, .inl fun _ => 0))), (q2, .inl (k2, (12800, .inl fun _ => 0))), (q3, .inl (k3, (12800, .inl fun _ => 0))), (q4, .inl (k4, (12800, .inl fun _ => 0)))] H := hP
  have hD : va_D A [(q0, .inr (6, [.ref q1, .ref q2, .ref q3, .ref q4, .null, .null, .null, .int 0])), (q1, .inl (k1, (12800, .inl fun _ => 0))), (q2, .inl (k2, (12800, .inl fun _ => 0))), (q3, .inl (k3, (12800, .inl fun _ => 0))), (q4, .inl (k4, (12800, .inl fun _ => 0)))] := hD
  refine lv_aload_n hx hb (show decode prog_8_method_1_code 40 = .ok (.aload_n 0, 1) by decide +kernel) rfl (lv_at hl 0 rfl) ?_
  refine lv_sipush (v := 12800) hx hb (show decode prog_8_method_1_code 41 = .ok (.sipush 12800, 3) by decide +kernel) (by decide) ?_
  refine va_newa (ty := .int) (N' := 12800) (a0 := (12800, .inl fun _ => 0)) hx hb (hts _ (lw_g_of (List.mem_of_getElem? (i := 190) (by decide +kernel)) rfl)) rfl hK hP hD hS hA (fun _ => rfl) (by decide) (by decide) (by decide) (Nat.le_of_ble_eq_true rfl) (Nat.le_of_ble_eq_true rfl) (show decode prog_8_method_1_code 44 = .ok (.newarray .int, 2) by decide +kernel) (fun q5 k5 H hK hP hD hS => ?_)
  have hP : va_P D d_CL [(q0, .inr (6, [.ref q1, .ref q2, .ref q3, .ref q4, .null, .null, .null, .int 0])), (q1, .inl (k1, (12800, .inl fun _ => 0))), (q2, .inl (k2, (12800, .inl fun _ => 0))), (q3, .inl (k3, (12800, .inl fun _ => 0))), (q4, .inl (k4, (12800, .inl fun _ => 0))), (q5, .inl (k5, (12800, .inl fun _ => 0)))] H := hP
  have hD : va_D A [(q0, .inr (6, [.ref q1, .ref q2, .ref q3, .ref q4, .null, .null, .null, .int 0])), (q1, .inl (k1, (12800, .inl fun _ => 0))), (q2, .inl (k2, (12800, .inl fun _ => 0))), (q3, .inl (k3, (12800, .inl fun _ => 0))), (q4, .inl (k4, (12800, .inl fun _ => 0))), (q5, .inl (k5, (12800, .inl fun _ => 0)))] := hD
  have hK : va_K D d_CL [(k1, .int), (k2, .int), (k3, .int), (k4, .int), (k5, .int)] s := hK
  refine W.widen (k := 5) (n := 64000) (Nat.le_of_ble_eq_true rfl) (Nat.le_of_ble_eq_true rfl) ?_
  refine va_putF (ci := 6) (v := .ref q5) (ty := .array .int) (C := R_No) (T := F_No) (N := 8) hx hb hts g_No t_No t_No_ok n_No hown hK hP hD hS 0 rfl rfl 4 (by decide) (hts _ (lw_g_of (List.mem_of_getElem? (i := 169) (by decide +kernel)) rfl)) (fun _ h9 => h9) rfl hin rfl (by decide +kernel) rfl rfl (Nat.le_of_ble_eq_true rfl) (show decode prog_8_method_1_code 46 = .ok (.putfield 22, 3) by decide +kernel) (fun H locs hP hD hS => ?_)
  have hP : va_P D d_CL [(q0, .inr (6, [.ref q1, .ref q2, .ref q3, .ref q4, .ref q5, .null, .null, .int 0])), (q1, .inl (k1, (12800, .inl fun _ => 0))), (q2, .inl (k2, (12800, .inl fun _ => 0))), (q3, .inl (k3, (12800, .inl fun _ => 0))), (q4, .inl (k4, (12800, .inl fun _ => 0))), (q5, .inl (k5, (12800, .inl fun _ => 0)))] H := hP
  have hD : va_D A [(q0, .inr (6, [.ref q1, .ref q2, .ref q3, .ref q4, .ref q5, .null, .null, .int 0])), (q1, .inl (k1, (12800, .inl fun _ => 0))), (q2, .inl (k2, (12800, .inl fun _ => 0))), (q3, .inl (k3, (12800, .inl fun _ => 0))), (q4, .inl (k4, (12800, .inl fun _ => 0))), (q5, .inl (k5, (12800, .inl fun _ => 0)))] := hD
  refine lv_aload_n hx hb (show decode prog_8_method_1_code 49 = .ok (.aload_n 0, 1) by decide +kernel) rfl (lv_at hl 0 rfl) ?_
  refine lv_sipush (v := 12800) hx hb (show decode prog_8_method_1_code 50 = .ok (.sipush 12800, 3) by decide +kernel) (by decide) ?_
  refine va_newa (ty := .int) (N' := 12800) (a0 := (12800, .inl fun _ => 0)) hx hb (hts _ (lw_g_of (List.mem_of_getElem? (i := 190) (by decide +kernel)) rfl)) rfl hK hP hD hS hA (fun _ => rfl) (by decide) (by decide) (by decide) (Nat.le_of_ble_eq_true rfl) (Nat.le_of_ble_eq_true rfl) (show decode prog_8_method_1_code 53 = .ok (.newarray .int, 2) by decide +kernel) (fun q6 k6 H hK hP hD hS => ?_)
  have hP : va_P D d_CL [(q0, .inr (6, [.ref q1, .ref q2, .ref q3, .ref q4, .ref q5, .null, .null, .int 0])), (q1, .inl (k1, (12800, .inl fun _ => 0))), (q2, .inl (k2, (12800, .inl fun _ => 0))), (q3, .inl (k3, (12800, .inl fun _ => 0))), (q4, .inl (k4, (12800, .inl fun _ => 0))), (q5, .inl (k5, (12800, .inl fun _ => 0))), (q6, .inl (k6, (12800, .inl fun _ => 0)))] H := hP
  have hD : va_D A [(q0, .inr (6, [.ref q1, .ref q2, .ref q3, .ref q4, .ref q5, .null, .null, .int 0])), (q1, .inl (k1, (12800, .inl fun _ => 0))), (q2, .inl (k2, (12800, .inl fun _ => 0))), (q3, .inl (k3, (12800, .inl fun _ => 0))), (q4, .inl (k4, (12800, .inl fun _ => 0))), (q5, .inl (k5, (12800, .inl fun _ => 0))), (q6, .inl (k6, (12800, .inl fun _ => 0)))] := hD
  have hK : va_K D d_CL [(k1, .int), (k2, .int), (k3, .int), (k4, .int), (k5, .int), (k6, .int)] s := hK
  refine W.widen (k := 6) (n := 76800) (Nat.le_of_ble_eq_true rfl) (Nat.le_of_ble_eq_true rfl) ?_
  refine va_putF (ci := 6) (v := .ref q6) (ty := .array .int) (C := R_No) (T := F_No) (N := 8) hx hb hts g_No t_No t_No_ok n_No hown hK hP hD hS 0 rfl rfl 5 (by decide) (hts _ (lw_g_of (List.mem_of_getElem? (i := 170) (by decide +kernel)) rfl)) (fun _ h9 => h9) rfl hin rfl (by decide +kernel) rfl rfl (Nat.le_of_ble_eq_true rfl) (show decode prog_8_method_1_code 55 = .ok (.putfield 25, 3) by decide +kernel) (fun H locs hP hD hS => ?_)
  have hP : va_P D d_CL [(q0, .inr (6, [.ref q1, .ref q2, .ref q3, .ref q4, .ref q5, .ref q6, .null, .int 0])), (q1, .inl (k1, (12800, .inl fun _ => 0))), (q2, .inl (k2, (12800, .inl fun _ => 0))), (q3, .inl (k3, (12800, .inl fun _ => 0))), (q4, .inl (k4, (12800, .inl fun _ => 0))), (q5, .inl (k5, (12800, .inl fun _ => 0))), (q6, .inl (k6, (12800, .inl fun _ => 0)))] H := hP
  have hD : va_D A [(q0, .inr (6, [.ref q1, .ref q2, .ref q3, .ref q4, .ref q5, .ref q6, .null, .int 0])), (q1, .inl (k1, (12800, .inl fun _ => 0))), (q2, .inl (k2, (12800, .inl fun _ => 0))), (q3, .inl (k3, (12800, .inl fun _ => 0))), (q4, .inl (k4, (12800, .inl fun _ => 0))), (q5, .inl (k5, (12800, .inl fun _ => 0))), (q6, .inl (k6, (12800, .inl fun _ => 0)))] := hD
  refine lv_aload_n hx hb (show decode prog_8_method_1_code 58 = .ok (.aload_n 0, 1) by decide +kernel) rfl (lv_at hl 0 rfl) ?_
  refine lv_sipush (v := 12800) hx hb (show decode prog_8_method_1_code 59 = .ok (.sipush 12800, 3) by decide +kernel) (by decide) ?_
  refine va_newa (ty := .int) (N' := 12800) (a0 := (12800, .inl fun _ => 0)) hx hb (hts _ (lw_g_of (List.mem_of_getElem? (i := 190) (by decide +kernel)) rfl)) rfl hK hP hD hS hA (fun _ => rfl) (by decide) (by decide) (by decide) (Nat.le_of_ble_eq_true rfl) (Nat.le_of_ble_eq_true rfl) (show decode prog_8_method_1_code 62 = .ok (.newarray .int, 2) by decide +kernel) (fun q7 k7 H hK hP hD hS => ?_)
  have hP : va_P D d_CL [(q0, .inr (6, [.ref q1, .ref q2, .ref q3, .ref q4, .ref q5, .ref q6, .null, .int 0])), (q1, .inl (k1, (12800, .inl fun _ => 0))), (q2, .inl (k2, (12800, .inl fun _ => 0))), (q3, .inl (k3, (12800, .inl fun _ => 0))), (q4, .inl (k4, (12800, .inl fun _ => 0))), (q5, .inl (k5, (12800, .inl fun _ => 0))), (q6, .inl (k6, (12800, .inl fun _ => 0))), (q7, .inl (k7, (12800, .inl fun _ => 0)))] H := hP
  have hD : va_D A [(q0, .inr (6, [.ref q1, .ref q2, .ref q3, .ref q4, .ref q5, .ref q6, .null, .int 0])), (q1, .inl (k1, (12800, .inl fun _ => 0))), (q2, .inl (k2, (12800, .inl fun _ => 0))), (q3, .inl (k3, (12800, .inl fun _ => 0))), (q4, .inl (k4, (12800, .inl fun _ => 0))), (q5, .inl (k5, (12800, .inl fun _ => 0))), (q6, .inl (k6, (12800, .inl fun _ => 0))), (q7, .inl (k7, (12800, .inl fun _ => 0)))] := hD
  have hK : va_K D d_CL [(k1, .int), (k2, .int), (k3, .int), (k4, .int), (k5, .int), (k6, .int), (k7, .int)] s := hK
  refine W.widen (k := 7) (n := 89600) (Nat.le_of_ble_eq_true rfl) (Nat.le_of_ble_eq_true rfl) ?_
  refine va_putF (ci := 6) (v := .ref q7) (ty := .array .int) (C := R_No) (T := F_No) (N := 8) hx hb hts g_No t_No t_No_ok n_No hown hK hP hD hS 0 rfl rfl 6 (by decide) (hts _ (lw_g_of (List.mem_of_getElem? (i := 171) (by decide +kernel)) rfl)) (fun _ h9 => h9) rfl hin rfl (by decide +kernel) rfl rfl (Nat.le_of_ble_eq_true rfl) (show decode prog_8_method_1_code 64 = .ok (.putfield 28, 3) by decide +kernel) (fun H locs hP hD hS => ?_)
  have hP : va_P D d_CL [(q0, .inr (6, [.ref q1, .ref q2, .ref q3, .ref q4, .ref q5, .ref q6, .ref q7, .int 0])), (q1, .inl (k1, (12800, .inl fun _ => 0))), (q2, .inl (k2, (12800, .inl fun _ => 0))), (q3, .inl (k3, (12800, .inl fun _ => 0))), (q4, .inl (k4, (12800, .inl fun _ => 0))), (q5, .inl (k5, (12800, .inl fun _ => 0))), (q6, .inl (k6, (12800, .inl fun _ => 0))), (q7, .inl (k7, (12800, .inl fun _ => 0)))] H := hP
  have hD : va_D A [(q0, .inr (6, [.ref q1, .ref q2, .ref q3, .ref q4, .ref q5, .ref q6, .ref q7, .int 0])), (q1, .inl (k1, (12800, .inl fun _ => 0))), (q2, .inl (k2, (12800, .inl fun _ => 0))), (q3, .inl (k3, (12800, .inl fun _ => 0))), (q4, .inl (k4, (12800, .inl fun _ => 0))), (q5, .inl (k5, (12800, .inl fun _ => 0))), (q6, .inl (k6, (12800, .inl fun _ => 0))), (q7, .inl (k7, (12800, .inl fun _ => 0)))] := hD
  refine lv_aload_n hx hb (show decode prog_8_method_1_code 67 = .ok (.aload_n 0, 1) by decide +kernel) rfl (lv_at hl 0 rfl) ?_
  refine lv_iconst (v := 1) hx hb (show decode prog_8_method_1_code 68 = .ok (.iconst 1, 1) by decide +kernel) (by decide) ?_
  refine va_put (ci := 6) (v := .int 1) (ty := .int) (C := R_No) (T := F_No) (N := 8) hx hb hts g_No t_No t_No_ok n_No hown hK hP hD hS 0 rfl rfl 7 (by decide) (hts _ (lw_g_of (List.mem_of_getElem? (i := 172) (by decide +kernel)) rfl)) (fun _ h9 => h9) rfl (by decide +kernel) rfl rfl (Nat.le_of_ble_eq_true rfl) (show decode prog_8_method_1_code 69 = .ok (.putfield 31, 3) by decide +kernel) (fun H locs hP hD hS => ?_)
  have hP : va_P D d_CL [(q0, .inr (6, [.ref q1, .ref q2, .ref q3, .ref q4, .ref q5, .ref q6, .ref q7, .int 1])), (q1, .inl (k1, (12800, .inl fun _ => 0))), (q2, .inl (k2, (12800, .inl fun _ => 0))), (q3, .inl (k3, (12800, .inl fun _ => 0))), (q4, .inl (k4, (12800, .inl fun _ => 0))), (q5, .inl (k5, (12800, .inl fun _ => 0))), (q6, .inl (k6, (12800, .inl fun _ => 0))), (q7, .inl (k7, (12800, .inl fun _ => 0)))] H := hP
  have hD : va_D A [(q0, .inr (6, [.ref q1, .ref q2, .ref q3, .ref q4, .ref q5, .ref q6, .ref q7, .int 1])), (q1, .inl (k1, (12800, .inl fun _ => 0))), (q2, .inl (k2, (12800, .inl fun _ => 0))), (q3, .inl (k3, (12800, .inl fun _ => 0))), (q4, .inl (k4, (12800, .inl fun _ => 0))), (q5, .inl (k5, (12800, .inl fun _ => 0))), (q6, .inl (k6, (12800, .inl fun _ => 0))), (q7, .inl (k7, (12800, .inl fun _ => 0)))] := hD
  exact W.vret hx hb hr (fun t ht hW => ⟨⟨(fun k => match k with
    | 0 => q1
    | 1 => q2
    | 2 => q3
    | 3 => q4
    | 4 => q5
    | 5 => q6
    | 6 => q7
    | _ => 0, fun k => match k with
    | 0 => k1
    | 1 => k2
    | 2 => k3
    | 3 => k4
    | 4 => k5
    | 5 => k6
    | 6 => k7
    | _ => k1), rfl, trivial, show va_P D d_CL [(q0, .inr (6, [.ref q1, .ref q2, .ref q3, .ref q4, .ref q5, .ref q6, .ref q7, .int 1])), (q1, .inl (k1, (12800, .inl fun _ => 0))), (q2, .inl (k2, (12800, .inl fun _ => 0))), (q3, .inl (k3, (12800, .inl fun _ => 0))), (q4, .inl (k4, (12800, .inl fun _ => 0))), (q5, .inl (k5, (12800, .inl fun _ => 0))), (q6, .inl (k6, (12800, .inl fun _ => 0))), (q7, .inl (k7, (12800, .inl fun _ => 0)))] t.heap by rw [ht]; exact hP, va_K.moved hW.alike hK, hD⟩, hS.F ht⟩) hS.2.2 (show decode prog_8_method_1_code 72 = .ok (.return_, 1) by decide +kernel)
def w_Co (q0 p0 : Nat) (u : (Nat → Nat) × (Nat → ClassId)) : va_W := [(q0, .inr (2, [.ref p0, .ref (u.1 0), .ref (u.1 1), .ref (u.1 2), .ref (u.1 3), .ref (u.1 4), .ref (u.1 5), .int 0])), (u.1 0, .inl (u.2 0, (1200, .inl fun _ => 0))), (u.1 1, .inl (u.2 1, (100, .inl fun _ => 0))), (u.1 2, .inl (u.2 2, (100, .inl fun _ => 0))), (u.1 3, .inl (u.2 3, (100, .inl fun _ => 0))), (u.1 4, .inl (u.2 4, (100, .inl fun _ => 0))), (u.1 5, .inl (u.2 5, (100, .inl fun _ => 0)))]
def ty_Co (u : (Nat → Nat) × (Nat → ClassId)) : List (ClassId × FieldType) := [(u.2 0, .char), (u.2 1, .int), (u.2 2, .int), (u.2 3, .int), (u.2 4, .int), (u.2 5, .int)]
set_option maxHeartbeats 4000000 in
set_option maxRecDepth 100000 in
theorem c_Co_init (l : Launch) (D : va_G) (q0 p0 sz : Nat) : Met l ⟨R_Co, "<init>", "(LFrameBench$Nodes;)V"⟩ (Cond.code ⟨R_Co, "<init>", "(LFrameBench$Nodes;)V"⟩ prog_4_method_1_code 2 none :: lw_g) ({ frames := 1, cells := 6, slots := 1700, locals := 40 }) (va_Pc [.ref q0, .ref p0] (fun U => U.heap.size = sz ∧ va_P D d_CL [(q0, .inr (2, [.null, .null, .null, .null, .null, .null, .null, .int 0]))] U.heap ∧ va_K D d_CL [] U ∧ va_D (fun _ => True) [(q0, .inr (2, [.null, .null, .null, .null, .null, .null, .null, .int 0]))])) (va_Qv (S := (Nat → Nat) × (Nat → ClassId)) (fun _ => True) (fun u t => va_P D d_CL (w_Co q0 p0 u) t.heap ∧ va_K D d_CL (ty_Co u) t ∧ va_D (va_A [(q0, .inr (2, [.null, .null, .null, .null, .null, .null, .null, .int 0]))] sz) (w_Co q0 p0 u)) (va_A [(q0, .inr (2, [.null, .null, .null, .null, .null, .null, .null, .int 0]))] sz)) 6 1700 (va_A [(q0, .inr (2, [.null, .null, .null, .null, .null, .null, .null, .int 0]))] sz) := by
  refine Met.ofW (cc := prog_4_method_1_code) (maxL := 2) (ret := none) (by decide) rfl ?_
  intro p e s m args below meth c s₁ B hml hv
  obtain ⟨rfl, hsz, hP, hK, hD0⟩ := hv
  have hx := B.exec
  have hb := B.bytes
  have hr := B.returns
  have hts0 := atoms_spec (ws := Cond.code ⟨R_Co, "<init>", "(LFrameBench$Nodes;)V"⟩ prog_4_method_1_code 2 none :: lw_g) B.pre
  have hts : ∀ w ∈ lw_g, w.before _ s = true := fun w hw => hts0 w (List.mem_cons_of_mem _ hw)
  have hown : s.vm.findClass R_Co = some m.cls := findClass_of_methodNamed B.named
  have hlocks := B.notSynchronized
  have hin : meth.name = "<init>" := (name_of_methodNamed B.named B.method).1
  subst hsz
  have hD := hD0.self (sz := s.heap.size)
  generalize hAe : va_A [(q0, .inr (2, [.null, .null, .null, .null, .null, .null, .null, .int 0]))] s.heap.size = A at hD ⊢
  have hA : ∀ q : Nat, s.heap.size ≤ q → A q := fun q h => by rw [← hAe]; exact Or.inr h
  have hS : va_S A s.heap s.heap [] := va_S.rf
  have hl := lv_entry ([.ref q0, .ref p0]) (n := 2) (Nat.le_of_ble_eq_true rfl)
  rw [lg_entry_eq]
  generalize (lg_sl ([.ref q0, .ref p0]) ++ List.replicate (2 - (lg_sl ([.ref q0, .ref p0])).length) Slot.unset).toArray = ls at hl ⊢
  have hl : lv_has ls 2 [(0, .ref q0), (1, .ref p0)] := hl
  refine lv_aload_n hx hb (show decode prog_4_method_1_code 0 = .ok (.aload_n 0, 1) by decide +kernel) rfl (lv_at hl 0 rfl) ?_
  refine W.objInit hx hb hown (hts _ (lw_g_of (List.mem_of_getElem? (i := 196) (by decide +kernel)) rfl)) (hts _ (lw_g_of (List.mem_of_getElem? (i := 134) (by decide +kernel)) rfl)) (hts _ (lw_g_of (List.mem_of_getElem? (i := 135) (by decide +kernel)) rfl)) rfl (by rw [hml]; exact hl.1) rfl (show decode prog_4_method_1_code 1 = .ok (.invokespecial 3, 3) by decide +kernel) (Nat.le_of_ble_eq_true rfl) (Nat.le_of_ble_eq_true rfl) ?_
  refine W.eq (g2 := F0 m 4 ls []) rfl ?_
  refine lv_aload_n hx hb (show decode prog_4_method_1_code 4 = .ok (.aload_n 0, 1) by decide +kernel) rfl (lv_at hl 0 rfl) ?_
  refine lv_sipush (v := 1200) hx hb (show decode prog_4_method_1_code 5 = .ok (.sipush 1200, 3) by decide +kernel) (by decide) ?_
  refine va_newa (ty := .char) (N' := 1200) (a0 := (1200, .inl fun _ => 0)) hx hb (hts _ (lw_g_of (List.mem_of_getElem? (i := 158) (by decide +kernel)) rfl)) rfl hK hP hD hS hA (fun _ => rfl) (by decide) (by decide) (by decide) (Nat.le_of_ble_eq_true rfl) (Nat.le_of_ble_eq_true rfl) (show decode prog_4_method_1_code 8 = .ok (.newarray .char, 2) by decide +kernel) (fun q1 k1 H hK hP hD hS => ?_)
  have hP : va_P D d_CL [(q0, .inr (2, [.null, .null, .null, .null, .null, .null, .null, .int 0])), (q1, .inl (k1, (1200, .inl fun _ => 0)))] H := hP
  have hD : va_D A [(q0, .inr (2, [.null, .null, .null, .null, .null, .null, .null, .int 0])), (q1, .inl (k1, (1200, .inl fun _ => 0)))] := hD
  have hK : va_K D d_CL [(k1, .char)] s := hK
  refine W.widen (k := 1) (n := 1200) (Nat.le_of_ble_eq_true rfl) (Nat.le_of_ble_eq_true rfl) ?_
  refine va_putF (ci := 2) (v := .ref q1) (ty := .array .char) (C := R_Co) (T := F_Co) (N := 8) hx hb hts g_Co t_Co t_Co_ok n_Co hown hK hP hD hS 0 rfl rfl 1 (by decide) (hts _ (lw_g_of (List.mem_of_getElem? (i := 198) (by decide +kernel)) rfl)) (fun _ h9 => h9) rfl hin rfl (by decide +kernel) rfl rfl (Nat.le_of_ble_eq_true rfl) (show decode prog_4_method_1_code 10 = .ok (.putfield 13, 3) by decide +kernel) (fun H locs hP hD hS => ?_)
  have hP : va_P D d_CL [(q0, .inr (2, [.null, .ref q1, .null, .null, .null, .null, .null, .int 0])), (q1, .inl (k1, (1200, .inl fun _ => 0)))] H := hP
  have hD : va_D A [(q0, .inr (2, [.null, .ref q1, .null, .null, .null, .null, .null, .int 0])), (q1, .inl (k1, (1200, .inl fun _ => 0)))] := hD
  refine lv_aload_n hx hb (show decode prog_4_method_1_code 13 = .ok (.aload_n 0, 1) by decide +kernel) rfl (lv_at hl 0 rfl) ?_
  refine lv_bipush (v := 100) hx hb (show decode prog_4_method_1_code 14 = .ok (.bipush 100, 2) by decide +kernel) (by decide) ?_
  refine va_newa (ty := .int) (N' := 100) (a0 := (100, .inl fun _ => 0)) hx hb (hts _ (lw_g_of (List.mem_of_getElem? (i := 190) (by decide +kernel)) rfl)) rfl hK hP hD hS hA (fun _ => rfl) (by decide) (by decide) (by decide) (Nat.le_of_ble_eq_true rfl) (Nat.le_of_ble_eq_true rfl) (show decode prog_4_method_1_code 16 = .ok (.newarray .int, 2) by decide +kernel) (fun q2 k2 H hK hP hD hS => ?_)
  have hP : va_P D d_CL [(q0, .inr (2, [.null, .ref q1, .null, .null, .null, .null, .null, .int 0])), (q1, .inl (k1, (1200, .inl fun _ => 0))), (q2, .inl (k2, (100, .inl fun _ => 0)))] H := hP
  have hD : va_D A [(q0, .inr (2, [.null, .ref q1, .null, .null, .null, .null, .null, .int 0])), (q1, .inl (k1, (1200, .inl fun _ => 0))), (q2, .inl (k2, (100, .inl fun _ => 0)))] := hD
  have hK : va_K D d_CL [(k1, .char), (k2, .int)] s := hK
  refine W.widen (k := 2) (n := 1300) (Nat.le_of_ble_eq_true rfl) (Nat.le_of_ble_eq_true rfl) ?_
  refine va_putF (ci := 2) (v := .ref q2) (ty := .array .int) (C := R_Co) (T := F_Co) (N := 8) hx hb hts g_Co t_Co t_Co_ok n_Co hown hK hP hD hS 0 rfl rfl 2 (by decide) (hts _ (lw_g_of (List.mem_of_getElem? (i := 199) (by decide +kernel)) rfl)) (fun _ h9 => h9) rfl hin rfl (by decide +kernel) rfl rfl (Nat.le_of_ble_eq_true rfl) (show decode prog_4_method_1_code 18 = .ok (.putfield 17, 3) by decide +kernel) (fun H locs hP hD hS => ?_)
  have hP : va_P D d_CL [(q0, .inr (2, [.null, .ref q1, .ref q2, .null, .null, .null, .null, .int 0])), (q1, .inl (k1, (1200, .inl fun _ => 0))), (q2, .inl (k2, (100, .inl fun _ => 0)))] H := hP
  have hD : va_D A [(q0, .inr (2, [.null, .ref q1, .ref q2, .null, .null, .null, .null, .int 0])), (q1, .inl (k1, (1200, .inl fun _ => 0))), (q2, .inl (k2, (100, .inl fun _ => 0)))] := hD
  refine lv_aload_n hx hb (show decode prog_4_method_1_code 21 = .ok (.aload_n 0, 1) by decide +kernel) rfl (lv_at hl 0 rfl) ?_
  refine lv_bipush (v := 100) hx hb (show decode prog_4_method_1_code 22 = .ok (.bipush 100, 2) by decide +kernel) (by decide) ?_
  refine va_newa (ty := .int) (N' := 100) (a0 := (100, .inl fun _ => 0)) hx hb (hts _ (lw_g_of (List.mem_of_getElem? (i := 190) (by decide +kernel)) rfl)) rfl hK hP hD hS hA (fun _ => rfl) (by decide) (by decide) (by decide) (Nat.le_of_ble_eq_true rfl) (Nat.le_of_ble_eq_true rfl) (show decode prog_4_method_1_code 24 = .ok (.newarray .int, 2) by decide +kernel) (fun q3 k3 H hK hP hD hS => ?_)
  have hP : va_P D d_CL [(q0, .inr (2, [.null, .ref q1, .ref q2, .null, .null, .null, .null, .int 0])), (q1, .inl (k1, (1200, .inl fun _ => 0))), (q2, .inl (k2, (100, .inl fun _ => 0))), (q3, .inl (k3, (100, .inl fun _ => 0)))] H := hP
  have hD : va_D A [(q0, .inr (2, [.null, .ref q1, .ref q2, .null, .null, .null, .null, .int 0])), (q1, .inl (k1, (1200, .inl fun _ => 0))), (q2, .inl (k2, (100, .inl fun _ => 0))), (q3, .inl (k3, (100, .inl fun _ => 0)))] := hD
  have hK : va_K D d_CL [(k1, .char), (k2, .int), (k3, .int)] s := hK
  refine W.widen (k := 3) (n := 1400) (Nat.le_of_ble_eq_true rfl) (Nat.le_of_ble_eq_true rfl) ?_
  refine va_putF (ci := 2) (v := .ref q3) (ty := .array .int) (C := R_Co) (T := F_Co) (N := 8) hx hb hts g_Co t_Co t_Co_ok n_Co hown hK hP hD hS 0 rfl rfl 3 (by decide) (hts _ (lw_g_of (List.mem_of_getElem? (i := 200) (by decide +kernel)) rfl)) (fun _ h9 => h9) rfl hin rfl (by decide +kernel) rfl rfl (Nat.le_of_ble_eq_true rfl) (show decode prog_4_method_1_code 26 = .ok (.putfield 21, 3) by decide +kernel) (fun H locs hP hD hS => ?_)
  have hP : va_P D d_CL [(q0, .inr (2, [.null, .ref q1, .ref q2, .ref q3, .null, .null, .null, .int 0])), (q1, .inl (k1, (1200, .inl fun _ => 0))), (q2, .inl (k2, (100, .inl fun _ => 0))), (q3, .inl (k3, (100, .inl fun _ => 0)))] H := hP
  have hD : va_D A [(q0, .inr (2, [.null, .ref q1, .ref q2, .ref q3, .null, .null, .null, .int 0])), (q1, .inl (k1, (1200, .inl fun _ => 0))), (q2, .inl (k2, (100, .inl fun _ => 0))), (q3, .inl (k3, (100, .inl fun _ => 0)))] := hD
  refine lv_aload_n hx hb (show decode prog_4_method_1_code 29 = .ok (.aload_n 0, 1) by decide +kernel) rfl (lv_at hl 0 rfl) ?_
  refine lv_bipush (v := 100) hx hb (show decode prog_4_method_1_code 30 = .ok (.bipush 100, 2) by decide +kernel) (by decide) ?_
  refine va_newa (ty := .int) (N' := 100) (a0 := (100, .inl fun _ => 0)) hx hb (hts _ (lw_g_of (List.mem_of_getElem? (i := 190) (by decide +kernel)) rfl)) rfl hK hP hD hS hA (fun _ => rfl) (by decide) (by decide) (by decide) (Nat.le_of_ble_eq_true rfl) (Nat.le_of_ble_eq_true rfl) (show decode prog_4_method_1_code 32 = .ok (.newarray .int, 2) by decide +kernel) (fun q4 k4 H hK hP hD hS => ?_)
  have hP : va_P D d_CL [(q0, .inr (2, [.null, .ref q1, .ref q2, .ref q3, .null, .null, .null, .int 0])), (q1, .inl (k1, (1200, .inl fun _ => 0))), (q2, .inl (k2, (100, .inl fun _ => 0))), (q3, .inl (k3, (100, .inl fun _ => 0))), (q4, .inl (k4, (100, .inl fun _ => 0)))] H := hP
  have hD : va_D A [(q0, .inr (2, [.null, .ref q1, .ref q2, .ref q3, .null, .null, .null, .int 0])), (q1, .inl (k1, (1200, .inl fun _ => 0))), (q2, .inl (k2, (100, .inl fun _ => 0))), (q3, .inl (k3, (100, .inl fun _ => 0))), (q4, .inl (k4, (100, .inl fun _ => 0)))] := hD
  have hK : va_K D d_CL [(k1, .char), (k2, .int), (k3, .int), (k4, .int)] s := hK
  refine W.widen (k := 4) (n := 1500) (Nat.le_of_ble_eq_true rfl) (Nat.le_of_ble_eq_true rfl) ?_
  refine va_putF (ci := 2) (v := .ref q4) (ty := .array .int) (C := R_Co) (T := F_Co) (N := 8) hx hb hts g_Co t_Co t_Co_ok n_Co hown hK hP hD hS 0 rfl rfl 4 (by decide) (hts _ (lw_g_of (List.mem_of_getElem? (i := 201) (by decide +kernel)) rfl)) (fun _ h9 => h9) rfl hin rfl (by decide +kernel) rfl rfl (Nat.le_of_ble_eq_true rfl) (show decode prog_4_method_1_code 34 = .ok (.putfield 24, 3) by decide +kernel) (fun H locs hP hD hS => ?_)
  have hP : va_P D d_CL [(q0, .inr (2, [.null, .ref q1, .ref q2, .ref q3, .ref q4, .null, .null, .int 0])), (q1, .inl (k1, (1200, .inl fun _ => 0))), (q2, .inl (k2, (100, .inl fun _ => 0))), (q3, .inl (k3, (100, .inl fun _ => 0))), (q4, .inl (k4, (100, .inl fun _ => 0)))] H := hP
  have hD : va_D A [(q0, .inr (2, [.null, .ref q1, .ref q2, .ref q3, .ref q4, .null, .null, .int 0])), (q1, .inl (k1, (1200, .inl fun _ => 0))), (q2, .inl (k2, (100, .inl fun _ => 0))), (q3, .inl (k3, (100, .inl fun _ => 0))), (q4, .inl (k4, (100, .inl fun _ => 0)))] := hD
  refine lv_aload_n hx hb (show decode prog_4_method_1_code 37 = .ok (.aload_n 0, 1) by decide +kernel) rfl (lv_at hl 0 rfl) ?_
  refine lv_bipush (v := 100) hx hb (show decode prog_4_method_1_code 38 = .ok (.bipush 100, 2) by decide +kernel) (by decide) ?_
  refine va_newa (ty := .int) (N' := 100) (a0 := (100, .inl fun _ => 0)) hx hb (hts _ (lw_g_of (List.mem_of_getElem? (i := 190) (by decide +kernel)) rfl)) rfl hK hP hD hS hA (fun _ => rfl) (by decide) (by decide) (by decide) (Nat.le_of_ble_eq_true rfl) (Nat.le_of_ble_eq_true rfl) (show decode prog_4_method_1_code 40 = .ok (.newarray .int, 2) by decide +kernel) (fun q5 k5 H hK hP hD hS => ?_)
  have hP : va_P D d_CL [(q0, .inr (2, [.null, .ref q1, .ref q2, .ref q3, .ref q4, .null, .null, .int 0])), (q1, .inl (k1, (1200, .inl fun _ => 0))), (q2, .inl (k2, (100, .inl fun _ => 0))), (q3, .inl (k3, (100, .inl fun _ => 0))), (q4, .inl (k4, (100, .inl fun _ => 0))), (q5, .inl (k5, (100, .inl fun _ => 0)))] H := hP
  have hD : va_D A [(q0, .inr (2, [.null, .ref q1, .ref q2, .ref q3, .ref q4, .null, .null, .int 0])), (q1, .inl (k1, (1200, .inl fun _ => 0))), (q2, .inl (k2, (100, .inl fun _ => 0))), (q3, .inl (k3, (100, .inl fun _ => 0))), (q4, .inl (k4, (100, .inl fun _ => 0))), (q5, .inl (k5, (100, .inl fun _ => 0)))] := hD
  have hK : va_K D d_CL [(k1, .char), (k2, .int), (k3, .int), (k4, .int), (k5, .int)] s := hK
  refine W.widen (k := 5) (n := 1600) (Nat.le_of_ble_eq_true rfl) (Nat.le_of_ble_eq_true rfl) ?_
  refine va_putF (ci := 2) (v := .ref q5) (ty := .array .int) (C := R_Co) (T := F_Co) (N := 8) hx hb hts g_Co t_Co t_Co_ok n_Co hown hK hP hD hS 0 rfl rfl 5 (by decide) (hts _ (lw_g_of (List.mem_of_getElem? (i := 202) (by decide +kernel)) rfl)) (fun _ h9 => h9) rfl hin rfl (by decide +kernel) rfl rfl (Nat.le_of_ble_eq_true rfl) (show decode prog_4_method_1_code 42 = .ok (.putfield 27, 3) by decide +kernel) (fun H locs hP hD hS => ?_)
  have hP : va_P D d_CL [(q0, .inr (2, [.null, .ref q1, .ref q2, .ref q3, .ref q4, .ref q5, .null, .int 0])), (q1, .inl (k1, (1200, .inl fun _ => 0))), (q2, .inl (k2, (100, .inl fun _ => 0))), (q3, .inl (k3, (100, .inl fun _ => 0))), (q4, .inl (k4, (100, .inl fun _ => 0))), (q5, .inl (k5, (100, .inl fun _ => 0)))] H := hP
  have hD : va_D A [(q0, .inr (2, [.null, .ref q1, .ref q2, .ref q3, .ref q4, .ref q5, .null, .int 0])), (q1, .inl (k1, (1200, .inl fun _ => 0))), (q2, .inl (k2, (100, .inl fun _ => 0))), (q3, .inl (k3, (100, .inl fun _ => 0))), (q4, .inl (k4, (100, .inl fun _ => 0))), (q5, .inl (k5, (100, .inl fun _ => 0)))] := hD
  refine lv_aload_n hx hb (show decode prog_4_method_1_code 45 = .ok (.aload_n 0, 1) by decide +kernel) rfl (lv_at hl 0 rfl) ?_
  refine lv_bipush (v := 100) hx hb (show decode prog_4_method_1_code 46 = .ok (.bipush 100, 2) by decide +kernel) (by decide) ?_
  refine va_newa (ty := .int) (N' := 100) (a0 := (100, .inl fun _ => 0)) hx hb (hts _ (lw_g_of (List.mem_of_getElem? (i := 190) (by decide +kernel)) rfl)) rfl hK hP hD hS hA (fun _ => rfl) (by decide) (by decide) (by decide) (Nat.le_of_ble_eq_true rfl) (Nat.le_of_ble_eq_true rfl) (show decode prog_4_method_1_code 48 = .ok (.newarray .int, 2) by decide +kernel) (fun q6 k6 H hK hP hD hS => ?_)
  have hP : va_P D d_CL [(q0, .inr (2, [.null, .ref q1, .ref q2, .ref q3, .ref q4, .ref q5, .null, .int 0])), (q1, .inl (k1, (1200, .inl fun _ => 0))), (q2, .inl (k2, (100, .inl fun _ => 0))), (q3, .inl (k3, (100, .inl fun _ => 0))), (q4, .inl (k4, (100, .inl fun _ => 0))), (q5, .inl (k5, (100, .inl fun _ => 0))), (q6, .inl (k6, (100, .inl fun _ => 0)))] H := hP
  have hD : va_D A [(q0, .inr (2, [.null, .ref q1, .ref q2, .ref q3, .ref q4, .ref q5, .null, .int 0])), (q1, .inl (k1, (1200, .inl fun _ => 0))), (q2, .inl (k2, (100, .inl fun _ => 0))), (q3, .inl (k3, (100, .inl fun _ => 0))), (q4, .inl (k4, (100, .inl fun _ => 0))), (q5, .inl (k5, (100, .inl fun _ => 0))), (q6, .inl (k6, (100, .inl fun _ => 0)))] := hD
  have hK : va_K D d_CL [(k1, .char), (k2, .int), (k3, .int), (k4, .int), (k5, .int), (k6, .int)] s := hK
  refine W.widen (k := 6) (n := 1700) (Nat.le_of_ble_eq_true rfl) (Nat.le_of_ble_eq_true rfl) ?_
  refine va_putF (ci := 2) (v := .ref q6) (ty := .array .int) (C := R_Co) (T := F_Co) (N := 8) hx hb hts g_Co t_Co t_Co_ok n_Co hown hK hP hD hS 0 rfl rfl 6 (by decide) (hts _ (lw_g_of (List.mem_of_getElem? (i := 203) (by decide +kernel)) rfl)) (fun _ h9 => h9) rfl hin rfl (by decide +kernel) rfl rfl (Nat.le_of_ble_eq_true rfl) (show decode prog_4_method_1_code 50 = .ok (.putfield 30, 3) by decide +kernel) (fun H locs hP hD hS => ?_)
  have hP : va_P D d_CL [(q0, .inr (2, [.null, .ref q1, .ref q2, .ref q3, .ref q4, .ref q5, .ref q6, .int 0])), (q1, .inl (k1, (1200, .inl fun _ => 0))), (q2, .inl (k2, (100, .inl fun _ => 0))), (q3, .inl (k3, (100, .inl fun _ => 0))), (q4, .inl (k4, (100, .inl fun _ => 0))), (q5, .inl (k5, (100, .inl fun _ => 0))), (q6, .inl (k6, (100, .inl fun _ => 0)))] H := hP
  have hD : va_D A [(q0, .inr (2, [.null, .ref q1, .ref q2, .ref q3, .ref q4, .ref q5, .ref q6, .int 0])), (q1, .inl (k1, (1200, .inl fun _ => 0))), (q2, .inl (k2, (100, .inl fun _ => 0))), (q3, .inl (k3, (100, .inl fun _ => 0))), (q4, .inl (k4, (100, .inl fun _ => 0))), (q5, .inl (k5, (100, .inl fun _ => 0))), (q6, .inl (k6, (100, .inl fun _ => 0)))] := hD
  refine lv_aload_n hx hb (show decode prog_4_method_1_code 53 = .ok (.aload_n 0, 1) by decide +kernel) rfl (lv_at hl 0 rfl) ?_
  refine lv_aload_n hx hb (show decode prog_4_method_1_code 54 = .ok (.aload_n 1, 1) by decide +kernel) rfl (lv_at hl 1 rfl) ?_
  refine va_putF (ci := 2) (v := .ref p0) (ty := .object "FrameBench$Nodes") (C := R_Co) (T := F_Co) (N := 8) hx hb hts g_Co t_Co t_Co_ok n_Co hown hK hP hD hS 0 rfl rfl 0 (by decide) (hts _ (lw_g_of (List.mem_of_getElem? (i := 197) (by decide +kernel)) rfl)) (fun _ h9 => h9) rfl hin rfl (by decide +kernel) rfl rfl (Nat.le_of_ble_eq_true rfl) (show decode prog_4_method_1_code 55 = .ok (.putfield 33, 3) by decide +kernel) (fun H locs hP hD hS => ?_)
  have hP : va_P D d_CL [(q0, .inr (2, [.ref p0, .ref q1, .ref q2, .ref q3, .ref q4, .ref q5, .ref q6, .int 0])), (q1, .inl (k1, (1200, .inl fun _ => 0))), (q2, .inl (k2, (100, .inl fun _ => 0))), (q3, .inl (k3, (100, .inl fun _ => 0))), (q4, .inl (k4, (100, .inl fun _ => 0))), (q5, .inl (k5, (100, .inl fun _ => 0))), (q6, .inl (k6, (100, .inl fun _ => 0)))] H := hP
  have hD : va_D A [(q0, .inr (2, [.ref p0, .ref q1, .ref q2, .ref q3, .ref q4, .ref q5, .ref q6, .int 0])), (q1, .inl (k1, (1200, .inl fun _ => 0))), (q2, .inl (k2, (100, .inl fun _ => 0))), (q3, .inl (k3, (100, .inl fun _ => 0))), (q4, .inl (k4, (100, .inl fun _ => 0))), (q5, .inl (k5, (100, .inl fun _ => 0))), (q6, .inl (k6, (100, .inl fun _ => 0)))] := hD
  exact W.vret hx hb hr (fun t ht hW => ⟨⟨(fun k => match k with
    | 0 => q1
    | 1 => q2
    | 2 => q3
    | 3 => q4
    | 4 => q5
    | 5 => q6
    | _ => 0, fun k => match k with
    | 0 => k1
    | 1 => k2
    | 2 => k3
    | 3 => k4
    | 4 => k5
    | 5 => k6
    | _ => k1), rfl, trivial, show va_P D d_CL [(q0, .inr (2, [.ref p0, .ref q1, .ref q2, .ref q3, .ref q4, .ref q5, .ref q6, .int 0])), (q1, .inl (k1, (1200, .inl fun _ => 0))), (q2, .inl (k2, (100, .inl fun _ => 0))), (q3, .inl (k3, (100, .inl fun _ => 0))), (q4, .inl (k4, (100, .inl fun _ => 0))), (q5, .inl (k5, (100, .inl fun _ => 0))), (q6, .inl (k6, (100, .inl fun _ => 0)))] t.heap by rw [ht]; exact hP, va_K.moved hW.alike hK, hD⟩, hS.F ht⟩) hS.2.2 (show decode prog_4_method_1_code 58 = .ok (.return_, 1) by decide +kernel)
def w_Ce (q0 p0 : Nat) (u : (Nat → Nat) × (Nat → ClassId)) : va_W := [(q0, .inr (0, [.ref p0, .ref (u.1 0), .ref (u.1 1), .ref (u.1 2), .ref (u.1 3), .int 1])), (u.1 0, .inl (u.2 0, (32768, .inl fun _ => 0))), (u.1 1, .inl (u.2 1, (32768, .inl fun _ => 0))), (u.1 2, .inl (u.2 2, (32768, .inl fun _ => 0))), (u.1 3, .inl (u.2 3, (32768, .inl fun _ => 0)))]
def ty_Ce (u : (Nat → Nat) × (Nat → ClassId)) : List (ClassId × FieldType) := [(u.2 0, .int), (u.2 1, .int), (u.2 2, .int), (u.2 3, .int)]
set_option maxHeartbeats 4000000 in
set_option maxRecDepth 100000 in
theorem c_Ce_init (l : Launch) (D : va_G) (q0 p0 sz : Nat) : Met l ⟨R_Ce, "<init>", "(LFrameBench$Meter;)V"⟩ (Cond.code ⟨R_Ce, "<init>", "(LFrameBench$Meter;)V"⟩ prog_2_method_1_code 2 none :: lw_g) ({ frames := 1, cells := 4, slots := 131072, locals := 40 }) (va_Pc [.ref q0, .ref p0] (fun U => U.heap.size = sz ∧ va_P D d_CL [(q0, .inr (0, [.null, .null, .null, .null, .null, .int 0]))] U.heap ∧ va_K D d_CL [] U ∧ va_D (fun _ => True) [(q0, .inr (0, [.null, .null, .null, .null, .null, .int 0]))])) (va_Qv (S := (Nat → Nat) × (Nat → ClassId)) (fun _ => True) (fun u t => va_P D d_CL (w_Ce q0 p0 u) t.heap ∧ va_K D d_CL (ty_Ce u) t ∧ va_D (va_A [(q0, .inr (0, [.null, .null, .null, .null, .null, .int 0]))] sz) (w_Ce q0 p0 u)) (va_A [(q0, .inr (0, [.null, .null, .null, .null, .null, .int 0]))] sz)) 4 131072 (va_A [(q0, .inr (0, [.null, .null, .null, .null, .null, .int 0]))] sz) := by
  refine Met.ofW (cc := prog_2_method_1_code) (maxL := 2) (ret := none) (by decide) rfl ?_
  intro p e s m args below meth c s₁ B hml hv
  obtain ⟨rfl, hsz, hP, hK, hD0⟩ := hv
  have hx := B.exec
  have hb := B.bytes
  have hr := B.returns
  have hts0 := atoms_spec (ws := Cond.code ⟨R_Ce, "<init>", "(LFrameBench$Meter;)V"⟩ prog_2_method_1_code 2 none :: lw_g) B.pre
  have hts : ∀ w ∈ lw_g, w.before _ s = true := fun w hw => hts0 w (List.mem_cons_of_mem _ hw)
  have hown : s.vm.findClass R_Ce = some m.cls := findClass_of_methodNamed B.named
  have hlocks := B.notSynchronized
  have hin : meth.name = "<init>" := (name_of_methodNamed B.named B.method).1
  subst hsz
  have hD := hD0.self (sz := s.heap.size)
  generalize hAe : va_A [(q0, .inr (0, [.null, .null, .null, .null, .null, .int 0]))] s.heap.size = A at hD ⊢
  have hA : ∀ q : Nat, s.heap.size ≤ q → A q := fun q h => by rw [← hAe]; exact Or.inr h
  have hS : va_S A s.heap s.heap [] := va_S.rf
  have hl := lv_entry ([.ref q0, .ref p0]) (n := 2) (Nat.le_of_ble_eq_true rfl)
  rw [lg_entry_eq]
  generalize (lg_sl ([.ref q0, .ref p0]) ++ List.replicate (2 - (lg_sl ([.ref q0, .ref p0])).length) Slot.unset).toArray = ls at hl ⊢
  have hl : lv_has ls 2 [(0, .ref q0), (1, .ref p0)] := hl
  refine lv_aload_n hx hb (show decode prog_2_method_1_code 0 = .ok (.aload_n 0, 1) by decide +kernel) rfl (lv_at hl 0 rfl) ?_
  refine W.objInit hx hb hown (hts _ (lw_g_of (List.mem_of_getElem? (i := 243) (by decide +kernel)) rfl)) (hts _ (lw_g_of (List.mem_of_getElem? (i := 134) (by decide +kernel)) rfl)) (hts _ (lw_g_of (List.mem_of_getElem? (i := 135) (by decide +kernel)) rfl)) rfl (by rw [hml]; exact hl.1) rfl (show decode prog_2_method_1_code 1 = .ok (.invokespecial 3, 3) by decide +kernel) (Nat.le_of_ble_eq_true rfl) (Nat.le_of_ble_eq_true rfl) ?_
  refine W.eq (g2 := F0 m 4 ls []) rfl ?_
  refine lv_aload_n hx hb (show decode prog_2_method_1_code 4 = .ok (.aload_n 0, 1) by decide +kernel) rfl (lv_at hl 0 rfl) ?_
  refine lv_ldc (v := 32768) hx hb hown (hts _ (lw_g_of (List.mem_of_getElem? (i := 244) (by decide +kernel)) rfl)) (show decode prog_2_method_1_code 5 = .ok (.ldc 11, 2) by decide +kernel) ?_
  refine va_newa (ty := .int) (N' := 32768) (a0 := (32768, .inl fun _ => 0)) hx hb (hts _ (lw_g_of (List.mem_of_getElem? (i := 190) (by decide +kernel)) rfl)) rfl hK hP hD hS hA (fun _ => rfl) (by decide) (by decide) (by decide) (Nat.le_of_ble_eq_true rfl) (Nat.le_of_ble_eq_true rfl) (show decode prog_2_method_1_code 7 = .ok (.newarray .int, 2) by decide +kernel) (fun q1 k1 H hK hP hD hS => ?_)
  have hP : va_P D d_CL [(q0, .inr (0, [.null, .null, .null, .null, .null, .int 0])), (q1, .inl (k1, (32768, .inl fun _ => 0)))] H := hP
  have hD : va_D A [(q0, .inr (0, [.null, .null, .null, .null, .null, .int 0])), (q1, .inl (k1, (32768, .inl fun _ => 0)))] := hD
  have hK : va_K D d_CL [(k1, .int)] s := hK
  refine W.widen (k := 1) (n := 32768) (Nat.le_of_ble_eq_true rfl) (Nat.le_of_ble_eq_true rfl) ?_
  refine va_putF (ci := 0) (v := .ref q1) (ty := .array .int) (C := R_Ce) (T := F_Ce) (N := 6) hx hb hts g_Ce t_Ce t_Ce_ok n_Ce hown hK hP hD hS 0 rfl rfl 1 (by decide) (hts _ (lw_g_of (List.mem_of_getElem? (i := 246) (by decide +kernel)) rfl)) (fun _ h9 => h9) rfl hin rfl (by decide +kernel) rfl rfl (Nat.le_of_ble_eq_true rfl) (show decode prog_2_method_1_code 9 = .ok (.putfield 12, 3) by decide +kernel) (fun H locs hP hD hS => ?_)
  have hP : va_P D d_CL [(q0, .inr (0, [.null, .ref q1, .null, .null, .null, .int 0])), (q1, .inl (k1, (32768, .inl fun _ => 0)))] H := hP
  have hD : va_D A [(q0, .inr (0, [.null, .ref q1, .null, .null, .null, .int 0])), (q1, .inl (k1, (32768, .inl fun _ => 0)))] := hD
  refine lv_aload_n hx hb (show decode prog_2_method_1_code 12 = .ok (.aload_n 0, 1) by decide +kernel) rfl (lv_at hl 0 rfl) ?_
  refine lv_ldc (v := 32768) hx hb hown (hts _ (lw_g_of (List.mem_of_getElem? (i := 244) (by decide +kernel)) rfl)) (show decode prog_2_method_1_code 13 = .ok (.ldc 11, 2) by decide +kernel) ?_
  refine va_newa (ty := .int) (N' := 32768) (a0 := (32768, .inl fun _ => 0)) hx hb (hts _ (lw_g_of (List.mem_of_getElem? (i := 190) (by decide +kernel)) rfl)) rfl hK hP hD hS hA (fun _ => rfl) (by decide) (by decide) (by decide) (Nat.le_of_ble_eq_true rfl) (Nat.le_of_ble_eq_true rfl) (show decode prog_2_method_1_code 15 = .ok (.newarray .int, 2) by decide +kernel) (fun q2 k2 H hK hP hD hS => ?_)
  have hP : va_P D d_CL [(q0, .inr (0, [.null, .ref q1, .null, .null, .null, .int 0])), (q1, .inl (k1, (32768, .inl fun _ => 0))), (q2, .inl (k2, (32768, .inl fun _ => 0)))] H := hP
  have hD : va_D A [(q0, .inr (0, [.null, .ref q1, .null, .null, .null, .int 0])), (q1, .inl (k1, (32768, .inl fun _ => 0))), (q2, .inl (k2, (32768, .inl fun _ => 0)))] := hD
  have hK : va_K D d_CL [(k1, .int), (k2, .int)] s := hK
  refine W.widen (k := 2) (n := 65536) (Nat.le_of_ble_eq_true rfl) (Nat.le_of_ble_eq_true rfl) ?_
  refine va_putF (ci := 0) (v := .ref q2) (ty := .array .int) (C := R_Ce) (T := F_Ce) (N := 6) hx hb hts g_Ce t_Ce t_Ce_ok n_Ce hown hK hP hD hS 0 rfl rfl 2 (by decide) (hts _ (lw_g_of (List.mem_of_getElem? (i := 247) (by decide +kernel)) rfl)) (fun _ h9 => h9) rfl hin rfl (by decide +kernel) rfl rfl (Nat.le_of_ble_eq_true rfl) (show decode prog_2_method_1_code 17 = .ok (.putfield 16, 3) by decide +kernel) (fun H locs hP hD hS => ?_)
  have hP : va_P D d_CL [(q0, .inr (0, [.null, .ref q1, .ref q2, .null, .null, .int 0])), (q1, .inl (k1, (32768, .inl fun _ => 0))), (q2, .inl (k2, (32768, .inl fun _ => 0)))] H := hP
  have hD : va_D A [(q0, .inr (0, [.null, .ref q1, .ref q2, .null, .null, .int 0])), (q1, .inl (k1, (32768, .inl fun _ => 0))), (q2, .inl (k2, (32768, .inl fun _ => 0)))] := hD
  refine lv_aload_n hx hb (show decode prog_2_method_1_code 20 = .ok (.aload_n 0, 1) by decide +kernel) rfl (lv_at hl 0 rfl) ?_
  refine lv_ldc (v := 32768) hx hb hown (hts _ (lw_g_of (List.mem_of_getElem? (i := 244) (by decide +kernel)) rfl)) (show decode prog_2_method_1_code 21 = .ok (.ldc 11, 2) by decide +kernel) ?_
  refine va_newa (ty := .int) (N' := 32768) (a0 := (32768, .inl fun _ => 0)) hx hb (hts _ (lw_g_of (List.mem_of_getElem? (i := 190) (by decide +kernel)) rfl)) rfl hK hP hD hS hA (fun _ => rfl) (by decide) (by decide) (by decide) (Nat.le_of_ble_eq_true rfl) (Nat.le_of_ble_eq_true rfl) (show decode prog_2_method_1_code 23 = .ok (.newarray .int, 2) by decide +kernel) (fun q3 k3 H hK hP hD hS => ?_)
  have hP : va_P D d_CL [(q0, .inr (0, [.null, .ref q1, .ref q2, .null, .null, .int 0])), (q1, .inl (k1, (32768, .inl fun _ => 0))), (q2, .inl (k2, (32768, .inl fun _ => 0))), (q3, .inl (k3, (32768, .inl fun _ => 0)))] H := hP
  have hD : va_D A [(q0, .inr (0, [.null, .ref q1, .ref q2, .null, .null, .int 0])), (q1, .inl (k1, (32768, .inl fun _ => 0))), (q2, .inl (k2, (32768, .inl fun _ => 0))), (q3, .inl (k3, (32768, .inl fun _ => 0)))] := hD
  have hK : va_K D d_CL [(k1, .int), (k2, .int), (k3, .int)] s := hK
  refine W.widen (k := 3) (n := 98304) (Nat.le_of_ble_eq_true rfl) (Nat.le_of_ble_eq_true rfl) ?_
  refine va_putF (ci := 0) (v := .ref q3) (ty := .array .int) (C := R_Ce) (T := F_Ce) (N := 6) hx hb hts g_Ce t_Ce t_Ce_ok n_Ce hown hK hP hD hS 0 rfl rfl 3 (by decide) (hts _ (lw_g_of (List.mem_of_getElem? (i := 248) (by decide +kernel)) rfl)) (fun _ h9 => h9) rfl hin rfl (by decide +kernel) rfl rfl (Nat.le_of_ble_eq_true rfl) (show decode prog_2_method_1_code 25 = .ok (.putfield 19, 3) by decide +kernel) (fun H locs hP hD hS => ?_)
  have hP : va_P D d_CL [(q0, .inr (0, [.null, .ref q1, .ref q2, .ref q3, .null, .int 0])), (q1, .inl (k1, (32768, .inl fun _ => 0))), (q2, .inl (k2, (32768, .inl fun _ => 0))), (q3, .inl (k3, (32768, .inl fun _ => 0)))] H := hP
  have hD : va_D A [(q0, .inr (0, [.null, .ref q1, .ref q2, .ref q3, .null, .int 0])), (q1, .inl (k1, (32768, .inl fun _ => 0))), (q2, .inl (k2, (32768, .inl fun _ => 0))), (q3, .inl (k3, (32768, .inl fun _ => 0)))] := hD
  refine lv_aload_n hx hb (show decode prog_2_method_1_code 28 = .ok (.aload_n 0, 1) by decide +kernel) rfl (lv_at hl 0 rfl) ?_
  refine lv_ldc (v := 32768) hx hb hown (hts _ (lw_g_of (List.mem_of_getElem? (i := 244) (by decide +kernel)) rfl)) (show decode prog_2_method_1_code 29 = .ok (.ldc 11, 2) by decide +kernel) ?_
  refine va_newa (ty := .int) (N' := 32768) (a0 := (32768, .inl fun _ => 0)) hx hb (hts _ (lw_g_of (List.mem_of_getElem? (i := 190) (by decide +kernel)) rfl)) rfl hK hP hD hS hA (fun _ => rfl) (by decide) (by decide) (by decide) (Nat.le_of_ble_eq_true rfl) (Nat.le_of_ble_eq_true rfl) (show decode prog_2_method_1_code 31 = .ok (.newarray .int, 2) by decide +kernel) (fun q4 k4 H hK hP hD hS => ?_)
  have hP : va_P D d_CL [(q0, .inr (0, [.null, .ref q1, .ref q2, .ref q3, .null, .int 0])), (q1, .inl (k1, (32768, .inl fun _ => 0))), (q2, .inl (k2, (32768, .inl fun _ => 0))), (q3, .inl (k3, (32768, .inl fun _ => 0))), (q4, .inl (k4, (32768, .inl fun _ => 0)))] H := hP
  have hD : va_D A [(q0, .inr (0, [.null, .ref q1, .ref q2, .ref q3, .null, .int 0])), (q1, .inl (k1, (32768, .inl fun _ => 0))), (q2, .inl (k2, (32768, .inl fun _ => 0))), (q3, .inl (k3, (32768, .inl fun _ => 0))), (q4, .inl (k4, (32768, .inl fun _ => 0)))] := hD
  have hK : va_K D d_CL [(k1, .int), (k2, .int), (k3, .int), (k4, .int)] s := hK
  refine W.widen (k := 4) (n := 131072) (Nat.le_of_ble_eq_true rfl) (Nat.le_of_ble_eq_true rfl) ?_
  refine va_putF (ci := 0) (v := .ref q4) (ty := .array .int) (C := R_Ce) (T := F_Ce) (N := 6) hx hb hts g_Ce t_Ce t_Ce_ok n_Ce hown hK hP hD hS 0 rfl rfl 4 (by decide) (hts _ (lw_g_of (List.mem_of_getElem? (i := 249) (by decide +kernel)) rfl)) (fun _ h9 => h9) rfl hin rfl (by decide +kernel) rfl rfl (Nat.le_of_ble_eq_true rfl) (show decode prog_2_method_1_code 33 = .ok (.putfield 22, 3) by decide +kernel) (fun H locs hP hD hS => ?_)
  have hP : va_P D d_CL [(q0, .inr (0, [.null, .ref q1, .ref q2, .ref q3, .ref q4, .int 0])), (q1, .inl (k1, (32768, .inl fun _ => 0))), (q2, .inl (k2, (32768, .inl fun _ => 0))), (q3, .inl (k3, (32768, .inl fun _ => 0))), (q4, .inl (k4, (32768, .inl fun _ => 0)))] H := hP
  have hD : va_D A [(q0, .inr (0, [.null, .ref q1, .ref q2, .ref q3, .ref q4, .int 0])), (q1, .inl (k1, (32768, .inl fun _ => 0))), (q2, .inl (k2, (32768, .inl fun _ => 0))), (q3, .inl (k3, (32768, .inl fun _ => 0))), (q4, .inl (k4, (32768, .inl fun _ => 0)))] := hD
  refine lv_aload_n hx hb (show decode prog_2_method_1_code 36 = .ok (.aload_n 0, 1) by decide +kernel) rfl (lv_at hl 0 rfl) ?_
  refine lv_iconst (v := 1) hx hb (show decode prog_2_method_1_code 37 = .ok (.iconst 1, 1) by decide +kernel) (by decide) ?_
  refine va_put (ci := 0) (v := .int 1) (ty := .int) (C := R_Ce) (T := F_Ce) (N := 6) hx hb hts g_Ce t_Ce t_Ce_ok n_Ce hown hK hP hD hS 0 rfl rfl 5 (by decide) (hts _ (lw_g_of (List.mem_of_getElem? (i := 250) (by decide +kernel)) rfl)) (fun _ h9 => h9) rfl (by decide +kernel) rfl rfl (Nat.le_of_ble_eq_true rfl) (show decode prog_2_method_1_code 38 = .ok (.putfield 25, 3) by decide +kernel) (fun H locs hP hD hS => ?_)
  have hP : va_P D d_CL [(q0, .inr (0, [.null, .ref q1, .ref q2, .ref q3, .ref q4, .int 1])), (q1, .inl (k1, (32768, .inl fun _ => 0))), (q2, .inl (k2, (32768, .inl fun _ => 0))), (q3, .inl (k3, (32768, .inl fun _ => 0))), (q4, .inl (k4, (32768, .inl fun _ => 0)))] H := hP
  have hD : va_D A [(q0, .inr (0, [.null, .ref q1, .ref q2, .ref q3, .ref q4, .int 1])), (q1, .inl (k1, (32768, .inl fun _ => 0))), (q2, .inl (k2, (32768, .inl fun _ => 0))), (q3, .inl (k3, (32768, .inl fun _ => 0))), (q4, .inl (k4, (32768, .inl fun _ => 0)))] := hD
  refine lv_aload_n hx hb (show decode prog_2_method_1_code 41 = .ok (.aload_n 0, 1) by decide +kernel) rfl (lv_at hl 0 rfl) ?_
  refine lv_aload_n hx hb (show decode prog_2_method_1_code 42 = .ok (.aload_n 1, 1) by decide +kernel) rfl (lv_at hl 1 rfl) ?_
  refine va_putF (ci := 0) (v := .ref p0) (ty := .object "FrameBench$Meter") (C := R_Ce) (T := F_Ce) (N := 6) hx hb hts g_Ce t_Ce t_Ce_ok n_Ce hown hK hP hD hS 0 rfl rfl 0 (by decide) (hts _ (lw_g_of (List.mem_of_getElem? (i := 245) (by decide +kernel)) rfl)) (fun _ h9 => h9) rfl hin rfl (by decide +kernel) rfl rfl (Nat.le_of_ble_eq_true rfl) (show decode prog_2_method_1_code 43 = .ok (.putfield 29, 3) by decide +kernel) (fun H locs hP hD hS => ?_)
  have hP : va_P D d_CL [(q0, .inr (0, [.ref p0, .ref q1, .ref q2, .ref q3, .ref q4, .int 1])), (q1, .inl (k1, (32768, .inl fun _ => 0))), (q2, .inl (k2, (32768, .inl fun _ => 0))), (q3, .inl (k3, (32768, .inl fun _ => 0))), (q4, .inl (k4, (32768, .inl fun _ => 0)))] H := hP
  have hD : va_D A [(q0, .inr (0, [.ref p0, .ref q1, .ref q2, .ref q3, .ref q4, .int 1])), (q1, .inl (k1, (32768, .inl fun _ => 0))), (q2, .inl (k2, (32768, .inl fun _ => 0))), (q3, .inl (k3, (32768, .inl fun _ => 0))), (q4, .inl (k4, (32768, .inl fun _ => 0)))] := hD
  exact W.vret hx hb hr (fun t ht hW => ⟨⟨(fun k => match k with
    | 0 => q1
    | 1 => q2
    | 2 => q3
    | 3 => q4
    | _ => 0, fun k => match k with
    | 0 => k1
    | 1 => k2
    | 2 => k3
    | 3 => k4
    | _ => k1), rfl, trivial, show va_P D d_CL [(q0, .inr (0, [.ref p0, .ref q1, .ref q2, .ref q3, .ref q4, .int 1])), (q1, .inl (k1, (32768, .inl fun _ => 0))), (q2, .inl (k2, (32768, .inl fun _ => 0))), (q3, .inl (k3, (32768, .inl fun _ => 0))), (q4, .inl (k4, (32768, .inl fun _ => 0)))] t.heap by rw [ht]; exact hP, va_K.moved hW.alike hK, hD⟩, hS.F ht⟩) hS.2.2 (show decode prog_2_method_1_code 46 = .ok (.return_, 1) by decide +kernel)
def w_Pa (q0 p0 : Nat) (u : (Nat → Nat) × (Nat → ClassId)) : va_W := [(q0, .inr (7, [.ref p0, .ref (u.1 0), .ref (u.1 1), .int 0, .int 0])), (u.1 0, .inl (u.2 0, (2000, .inl fun _ => 0))), (u.1 1, .inl (u.2 1, (2000, .inl fun _ => 0)))]
def ty_Pa (u : (Nat → Nat) × (Nat → ClassId)) : List (ClassId × FieldType) := [(u.2 0, .char), (u.2 1, .char)]
set_option maxHeartbeats 4000000 in
set_option maxRecDepth 100000 in
theorem c_Pa_init (l : Launch) (D : va_G) (q0 p0 sz : Nat) : Met l ⟨R_Pa, "<init>", "(LFrameBench$Meter;)V"⟩ (Cond.code ⟨R_Pa, "<init>", "(LFrameBench$Meter;)V"⟩ prog_9_method_1_code 2 none :: lw_g) ({ frames := 1, cells := 2, slots := 4000, locals := 40 }) (va_Pc [.ref q0, .ref p0] (fun U => U.heap.size = sz ∧ va_P D d_CL [(q0, .inr (7, [.null, .null, .null, .int 0, .int 0]))] U.heap ∧ va_K D d_CL [] U ∧ va_D (fun _ => True) [(q0, .inr (7, [.null, .null, .null, .int 0, .int 0]))])) (va_Qv (S := (Nat → Nat) × (Nat → ClassId)) (fun _ => True) (fun u t => va_P D d_CL (w_Pa q0 p0 u) t.heap ∧ va_K D d_CL (ty_Pa u) t ∧ va_D (va_A [(q0, .inr (7, [.null, .null, .null, .int 0, .int 0]))] sz) (w_Pa q0 p0 u)) (va_A [(q0, .inr (7, [.null, .null, .null, .int 0, .int 0]))] sz)) 2 4000 (va_A [(q0, .inr (7, [.null, .null, .null, .int 0, .int 0]))] sz) := by
  refine Met.ofW (cc := prog_9_method_1_code) (maxL := 2) (ret := none) (by decide) rfl ?_
  intro p e s m args below meth c s₁ B hml hv
  obtain ⟨rfl, hsz, hP, hK, hD0⟩ := hv
  have hx := B.exec
  have hb := B.bytes
  have hr := B.returns
  have hts0 := atoms_spec (ws := Cond.code ⟨R_Pa, "<init>", "(LFrameBench$Meter;)V"⟩ prog_9_method_1_code 2 none :: lw_g) B.pre
  have hts : ∀ w ∈ lw_g, w.before _ s = true := fun w hw => hts0 w (List.mem_cons_of_mem _ hw)
  have hown : s.vm.findClass R_Pa = some m.cls := findClass_of_methodNamed B.named
  have hlocks := B.notSynchronized
  have hin : meth.name = "<init>" := (name_of_methodNamed B.named B.method).1
  subst hsz
  have hD := hD0.self (sz := s.heap.size)
  generalize hAe : va_A [(q0, .inr (7, [.null, .null, .null, .int 0, .int 0]))] s.heap.size = A at hD ⊢
  have hA : ∀ q : Nat, s.heap.size ≤ q → A q := fun q h => by rw [← hAe]; exact Or.inr h
  have hS : va_S A s.heap s.heap [] := va_S.rf
  have hl := lv_entry ([.ref q0, .ref p0]) (n := 2) (Nat.le_of_ble_eq_true rfl)
  rw [lg_entry_eq]
  generalize (lg_sl ([.ref q0, .ref p0]) ++ List.replicate (2 - (lg_sl ([.ref q0, .ref p0])).length) Slot.unset).toArray = ls at hl ⊢
  have hl : lv_has ls 2 [(0, .ref q0), (1, .ref p0)] := hl
  refine lv_aload_n hx hb (show decode prog_9_method_1_code 0 = .ok (.aload_n 0, 1) by decide +kernel) rfl (lv_at hl 0 rfl) ?_
  refine W.objInit hx hb hown (hts _ (lw_g_of (List.mem_of_getElem? (i := 269) (by decide +kernel)) rfl)) (hts _ (lw_g_of (List.mem_of_getElem? (i := 134) (by decide +kernel)) rfl)) (hts _ (lw_g_of (List.mem_of_getElem? (i := 135) (by decide +kernel)) rfl)) rfl (by rw [hml]; exact hl.1) rfl (show decode prog_9_method_1_code 1 = .ok (.invokespecial 3, 3) by decide +kernel) (Nat.le_of_ble_eq_true rfl) (Nat.le_of_ble_eq_true rfl) ?_
  refine W.eq (g2 := F0 m 4 ls []) rfl ?_
  refine lv_aload_n hx hb (show decode prog_9_method_1_code 4 = .ok (.aload_n 0, 1) by decide +kernel) rfl (lv_at hl 0 rfl) ?_
  refine lv_sipush (v := 2000) hx hb (show decode prog_9_method_1_code 5 = .ok (.sipush 2000, 3) by decide +kernel) (by decide) ?_
  refine va_newa (ty := .char) (N' := 2000) (a0 := (2000, .inl fun _ => 0)) hx hb (hts _ (lw_g_of (List.mem_of_getElem? (i := 158) (by decide +kernel)) rfl)) rfl hK hP hD hS hA (fun _ => rfl) (by decide) (by decide) (by decide) (Nat.le_of_ble_eq_true rfl) (Nat.le_of_ble_eq_true rfl) (show decode prog_9_method_1_code 8 = .ok (.newarray .char, 2) by decide +kernel) (fun q1 k1 H hK hP hD hS => ?_)
  have hP : va_P D d_CL [(q0, .inr (7, [.null, .null, .null, .int 0, .int 0])), (q1, .inl (k1, (2000, .inl fun _ => 0)))] H := hP
  have hD : va_D A [(q0, .inr (7, [.null, .null, .null, .int 0, .int 0])), (q1, .inl (k1, (2000, .inl fun _ => 0)))] := hD
  have hK : va_K D d_CL [(k1, .char)] s := hK
  refine W.widen (k := 1) (n := 2000) (Nat.le_of_ble_eq_true rfl) (Nat.le_of_ble_eq_true rfl) ?_
  refine va_putF (ci := 7) (v := .ref q1) (ty := .array .char) (C := R_Pa) (T := F_Pa) (N := 5) hx hb hts g_Pa t_Pa t_Pa_ok n_Pa hown hK hP hD hS 0 rfl rfl 1 (by decide) (hts _ (lw_g_of (List.mem_of_getElem? (i := 271) (by decide +kernel)) rfl)) (fun _ h9 => h9) rfl hin rfl (by decide +kernel) rfl rfl (Nat.le_of_ble_eq_true rfl) (show decode prog_9_method_1_code 10 = .ok (.putfield 11, 3) by decide +kernel) (fun H locs hP hD hS => ?_)
  have hP : va_P D d_CL [(q0, .inr (7, [.null, .ref q1, .null, .int 0, .int 0])), (q1, .inl (k1, (2000, .inl fun _ => 0)))] H := hP
  have hD : va_D A [(q0, .inr (7, [.null, .ref q1, .null, .int 0, .int 0])), (q1, .inl (k1, (2000, .inl fun _ => 0)))] := hD
  refine lv_aload_n hx hb (show decode prog_9_method_1_code 13 = .ok (.aload_n 0, 1) by decide +kernel) rfl (lv_at hl 0 rfl) ?_
  refine lv_sipush (v := 2000) hx hb (show decode prog_9_method_1_code 14 = .ok (.sipush 2000, 3) by decide +kernel) (by decide) ?_
  refine va_newa (ty := .char) (N' := 2000) (a0 := (2000, .inl fun _ => 0)) hx hb (hts _ (lw_g_of (List.mem_of_getElem? (i := 158) (by decide +kernel)) rfl)) rfl hK hP hD hS hA (fun _ => rfl) (by decide) (by decide) (by decide) (Nat.le_of_ble_eq_true rfl) (Nat.le_of_ble_eq_true rfl) (show decode prog_9_method_1_code 17 = .ok (.newarray .char, 2) by decide +kernel) (fun q2 k2 H hK hP hD hS => ?_)
  have hP : va_P D d_CL [(q0, .inr (7, [.null, .ref q1, .null, .int 0, .int 0])), (q1, .inl (k1, (2000, .inl fun _ => 0))), (q2, .inl (k2, (2000, .inl fun _ => 0)))] H := hP
  have hD : va_D A [(q0, .inr (7, [.null, .ref q1, .null, .int 0, .int 0])), (q1, .inl (k1, (2000, .inl fun _ => 0))), (q2, .inl (k2, (2000, .inl fun _ => 0)))] := hD
  have hK : va_K D d_CL [(k1, .char), (k2, .char)] s := hK
  refine W.widen (k := 2) (n := 4000) (Nat.le_of_ble_eq_true rfl) (Nat.le_of_ble_eq_true rfl) ?_
  refine va_putF (ci := 7) (v := .ref q2) (ty := .array .char) (C := R_Pa) (T := F_Pa) (N := 5) hx hb hts g_Pa t_Pa t_Pa_ok n_Pa hown hK hP hD hS 0 rfl rfl 2 (by decide) (hts _ (lw_g_of (List.mem_of_getElem? (i := 272) (by decide +kernel)) rfl)) (fun _ h9 => h9) rfl hin rfl (by decide +kernel) rfl rfl (Nat.le_of_ble_eq_true rfl) (show decode prog_9_method_1_code 19 = .ok (.putfield 15, 3) by decide +kernel) (fun H locs hP hD hS => ?_)
  have hP : va_P D d_CL [(q0, .inr (7, [.null, .ref q1, .ref q2, .int 0, .int 0])), (q1, .inl (k1, (2000, .inl fun _ => 0))), (q2, .inl (k2, (2000, .inl fun _ => 0)))] H := hP
  have hD : va_D A [(q0, .inr (7, [.null, .ref q1, .ref q2, .int 0, .int 0])), (q1, .inl (k1, (2000, .inl fun _ => 0))), (q2, .inl (k2, (2000, .inl fun _ => 0)))] := hD
  refine lv_aload_n hx hb (show decode prog_9_method_1_code 22 = .ok (.aload_n 0, 1) by decide +kernel) rfl (lv_at hl 0 rfl) ?_
  refine lv_aload_n hx hb (show decode prog_9_method_1_code 23 = .ok (.aload_n 1, 1) by decide +kernel) rfl (lv_at hl 1 rfl) ?_
  refine va_putF (ci := 7) (v := .ref p0) (ty := .object "FrameBench$Meter") (C := R_Pa) (T := F_Pa) (N := 5) hx hb hts g_Pa t_Pa t_Pa_ok n_Pa hown hK hP hD hS 0 rfl rfl 0 (by decide) (hts _ (lw_g_of (List.mem_of_getElem? (i := 270) (by decide +kernel)) rfl)) (fun _ h9 => h9) rfl hin rfl (by decide +kernel) rfl rfl (Nat.le_of_ble_eq_true rfl) (show decode prog_9_method_1_code 24 = .ok (.putfield 18, 3) by decide +kernel) (fun H locs hP hD hS => ?_)
  have hP : va_P D d_CL [(q0, .inr (7, [.ref p0, .ref q1, .ref q2, .int 0, .int 0])), (q1, .inl (k1, (2000, .inl fun _ => 0))), (q2, .inl (k2, (2000, .inl fun _ => 0)))] H := hP
  have hD : va_D A [(q0, .inr (7, [.ref p0, .ref q1, .ref q2, .int 0, .int 0])), (q1, .inl (k1, (2000, .inl fun _ => 0))), (q2, .inl (k2, (2000, .inl fun _ => 0)))] := hD
  exact W.vret hx hb hr (fun t ht hW => ⟨⟨(fun k => match k with
    | 0 => q1
    | 1 => q2
    | _ => 0, fun k => match k with
    | 0 => k1
    | 1 => k2
    | _ => k1), rfl, trivial, show va_P D d_CL [(q0, .inr (7, [.ref p0, .ref q1, .ref q2, .int 0, .int 0])), (q1, .inl (k1, (2000, .inl fun _ => 0))), (q2, .inl (k2, (2000, .inl fun _ => 0)))] t.heap by rw [ht]; exact hP, va_K.moved hW.alike hK, hD⟩, hS.F ht⟩) hS.2.2 (show decode prog_9_method_1_code 27 = .ok (.return_, 1) by decide +kernel)
def w_Re (q0 p0 p1 p2 : Nat) (u : (Nat → Nat) × (Nat → ClassId)) : va_W := [(q0, .inr (8, [.ref p0, .ref p1, .ref p2, .ref (u.1 0), .ref (u.1 1), .int 0, .int 0, .int 0, .int 0, .int 0, .int 0, .int 0])), (u.1 0, .inl (u.2 0, (40, .inl fun _ => 0))), (u.1 1, .inl (u.2 1, (40, .inl fun _ => 0)))]
def ty_Re (u : (Nat → Nat) × (Nat → ClassId)) : List (ClassId × FieldType) := [(u.2 0, .int), (u.2 1, .int)]
set_option maxHeartbeats 4000000 in
set_option maxRecDepth 100000 in
theorem c_Re_init (l : Launch) (D : va_G) (q0 p0 p1 p2 sz : Nat) : Met l ⟨R_Re, "<init>", "(LFrameBench$Tape;LFrameBench$Nodes;LFrameBench$Constants;)V"⟩ (Cond.code ⟨R_Re, "<init>", "(LFrameBench$Tape;LFrameBench$Nodes;LFrameBench$Constants;)V"⟩ prog_10_method_1_code 4 none :: lw_g) ({ frames := 1, cells := 2, slots := 80, locals := 40 }) (va_Pc [.ref q0, .ref p0, .ref p1, .ref p2] (fun U => U.heap.size = sz ∧ va_P D d_CL [(q0, .inr (8, [.null, .null, .null, .null, .null, .int 0, .int 0, .int 0, .int 0, .int 0, .int 0, .int 0]))] U.heap ∧ va_K D d_CL [] U ∧ va_D (fun _ => True) [(q0, .inr (8, [.null, .null, .null, .null, .null, .int 0, .int 0, .int 0, .int 0, .int 0, .int 0, .int 0]))])) (va_Qv (S := (Nat → Nat) × (Nat → ClassId)) (fun _ => True) (fun u t => va_P D d_CL (w_Re q0 p0 p1 p2 u) t.heap ∧ va_K D d_CL (ty_Re u) t ∧ va_D (va_A [(q0, .inr (8, [.null, .null, .null, .null, .null, .int 0, .int 0, .int 0, .int 0, .int 0, .int 0, .int 0]))] sz) (w_Re q0 p0 p1 p2 u)) (va_A [(q0, .inr (8, [.null, .null, .null, .null, .null, .int 0, .int 0, .int 0, .int 0, .int 0, .int 0, .int 0]))] sz)) 2 80 (va_A [(q0, .inr (8, [.null, .null, .null, .null, .null, .int 0, .int 0, .int 0, .int 0, .int 0, .int 0, .int 0]))] sz) := by
  refine Met.ofW (cc := prog_10_method_1_code) (maxL := 4) (ret := none) (by decide) rfl ?_
  intro p e s m args below meth c s₁ B hml hv
  obtain ⟨rfl, hsz, hP, hK, hD0⟩ := hv
  have hx := B.exec
  have hb := B.bytes
  have hr := B.returns
  have hts0 := atoms_spec (ws := Cond.code ⟨R_Re, "<init>", "(LFrameBench$Tape;LFrameBench$Nodes;LFrameBench$Constants;)V"⟩ prog_10_method_1_code 4 none :: lw_g) B.pre
  have hts : ∀ w ∈ lw_g, w.before _ s = true := fun w hw => hts0 w (List.mem_cons_of_mem _ hw)
  have hown : s.vm.findClass R_Re = some m.cls := findClass_of_methodNamed B.named
  have hlocks := B.notSynchronized
  have hin : meth.name = "<init>" := (name_of_methodNamed B.named B.method).1
  subst hsz
  have hD := hD0.self (sz := s.heap.size)
  generalize hAe : va_A [(q0, .inr (8, [.null, .null, .null, .null, .null, .int 0, .int 0, .int 0, .int 0, .int 0, .int 0, .int 0]))] s.heap.size = A at hD ⊢
  have hA : ∀ q : Nat, s.heap.size ≤ q → A q := fun q h => by rw [← hAe]; exact Or.inr h
  have hS : va_S A s.heap s.heap [] := va_S.rf
  have hl := lv_entry ([.ref q0, .ref p0, .ref p1, .ref p2]) (n := 4) (Nat.le_of_ble_eq_true rfl)
  rw [lg_entry_eq]
  generalize (lg_sl ([.ref q0, .ref p0, .ref p1, .ref p2]) ++ List.replicate (4 - (lg_sl ([.ref q0, .ref p0, .ref p1, .ref p2])).length) Slot.unset).toArray = ls at hl ⊢
  have hl : lv_has ls 4 [(0, .ref q0), (1, .ref p0), (2, .ref p1), (3, .ref p2)] := hl
  refine lv_aload_n hx hb (show decode prog_10_method_1_code 0 = .ok (.aload_n 0, 1) by decide +kernel) rfl (lv_at hl 0 rfl) ?_
  refine W.objInit hx hb hown (hts _ (lw_g_of (List.mem_of_getElem? (i := 291) (by decide +kernel)) rfl)) (hts _ (lw_g_of (List.mem_of_getElem? (i := 134) (by decide +kernel)) rfl)) (hts _ (lw_g_of (List.mem_of_getElem? (i := 135) (by decide +kernel)) rfl)) rfl (by rw [hml]; exact hl.1) rfl (show decode prog_10_method_1_code 1 = .ok (.invokespecial 3, 3) by decide +kernel) (Nat.le_of_ble_eq_true rfl) (Nat.le_of_ble_eq_true rfl) ?_
  refine W.eq (g2 := F0 m 4 ls []) rfl ?_
  refine lv_aload_n hx hb (show decode prog_10_method_1_code 4 = .ok (.aload_n 0, 1) by decide +kernel) rfl (lv_at hl 0 rfl) ?_
  refine lv_bipush (v := 40) hx hb (show decode prog_10_method_1_code 5 = .ok (.bipush 40, 2) by decide +kernel) (by decide) ?_
  refine va_newa (ty := .int) (N' := 40) (a0 := (40, .inl fun _ => 0)) hx hb (hts _ (lw_g_of (List.mem_of_getElem? (i := 190) (by decide +kernel)) rfl)) rfl hK hP hD hS hA (fun _ => rfl) (by decide) (by decide) (by decide) (Nat.le_of_ble_eq_true rfl) (Nat.le_of_ble_eq_true rfl) (show decode prog_10_method_1_code 7 = .ok (.newarray .int, 2) by decide +kernel) (fun q1 k1 H hK hP hD hS => ?_)
  have hP : va_P D d_CL [(q0, .inr (8, [.null, .null, .null, .null, .null, .int 0, .int 0, .int 0, .int 0, .int 0, .int 0, .int 0])), (q1, .inl (k1, (40, .inl fun _ => 0)))] H := hP
  have hD : va_D A [(q0, .inr (8, [.null, .null, .null, .null, .null, .int 0, .int 0, .int 0, .int 0, .int 0, .int 0, .int 0])), (q1, .inl (k1, (40, .inl fun _ => 0)))] := hD
  have hK : va_K D d_CL [(k1, .int)] s := hK
  refine W.widen (k := 1) (n := 40) (Nat.le_of_ble_eq_true rfl) (Nat.le_of_ble_eq_true rfl) ?_
  refine va_putF (ci := 8) (v := .ref q1) (ty := .array .int) (C := R_Re) (T := F_Re) (N := 12) hx hb hts g_Re t_Re t_Re_ok n_Re hown hK hP hD hS 0 rfl rfl 3 (by decide) (hts _ (lw_g_of (List.mem_of_getElem? (i := 295) (by decide +kernel)) rfl)) (fun _ h9 => h9) rfl hin rfl (by decide +kernel) rfl rfl (Nat.le_of_ble_eq_true rfl) (show decode prog_10_method_1_code 9 = .ok (.putfield 11, 3) by decide +kernel) (fun H locs hP hD hS => ?_)
  have hP : va_P D d_CL [(q0, .inr (8, [.null, .null, .null, .ref q1, .null, .int 0, .int 0, .int 0, .int 0, .int 0, .int 0, .int 0])), (q1, .inl (k1, (40, .inl fun _ => 0)))] H := hP
  have hD : va_D A [(q0, .inr (8, [.null, .null, .null, .ref q1, .null, .int 0, .int 0, .int 0, .int 0, .int 0, .int 0, .int 0])), (q1, .inl (k1, (40, .inl fun _ => 0)))] := hD
  refine lv_aload_n hx hb (show decode prog_10_method_1_code 12 = .ok (.aload_n 0, 1) by decide +kernel) rfl (lv_at hl 0 rfl) ?_
  refine lv_bipush (v := 40) hx hb (show decode prog_10_method_1_code 13 = .ok (.bipush 40, 2) by decide +kernel) (by decide) ?_
  refine va_newa (ty := .int) (N' := 40) (a0 := (40, .inl fun _ => 0)) hx hb (hts _ (lw_g_of (List.mem_of_getElem? (i := 190) (by decide +kernel)) rfl)) rfl hK hP hD hS hA (fun _ => rfl) (by decide) (by decide) (by decide) (Nat.le_of_ble_eq_true rfl) (Nat.le_of_ble_eq_true rfl) (show decode prog_10_method_1_code 15 = .ok (.newarray .int, 2) by decide +kernel) (fun q2 k2 H hK hP hD hS => ?_)
  have hP : va_P D d_CL [(q0, .inr (8, [.null, .null, .null, .ref q1, .null, .int 0, .int 0, .int 0, .int 0, .int 0, .int 0, .int 0])), (q1, .inl (k1, (40, .inl fun _ => 0))), (q2, .inl (k2, (40, .inl fun _ => 0)))] H := hP
  have hD : va_D A [(q0, .inr (8, [.null, .null, .null, .ref q1, .null, .int 0, .int 0, .int 0, .int 0, .int 0, .int 0, .int 0])), (q1, .inl (k1, (40, .inl fun _ => 0))), (q2, .inl (k2, (40, .inl fun _ => 0)))] := hD
  have hK : va_K D d_CL [(k1, .int), (k2, .int)] s := hK
  refine W.widen (k := 2) (n := 80) (Nat.le_of_ble_eq_true rfl) (Nat.le_of_ble_eq_true rfl) ?_
  refine va_putF (ci := 8) (v := .ref q2) (ty := .array .int) (C := R_Re) (T := F_Re) (N := 12) hx hb hts g_Re t_Re t_Re_ok n_Re hown hK hP hD hS 0 rfl rfl 4 (by decide) (hts _ (lw_g_of (List.mem_of_getElem? (i := 296) (by decide +kernel)) rfl)) (fun _ h9 => h9) rfl hin rfl (by decide +kernel) rfl rfl (Nat.le_of_ble_eq_true rfl) (show decode prog_10_method_1_code 17 = .ok (.putfield 15, 3) by decide +kernel) (fun H locs hP hD hS => ?_)
  have hP : va_P D d_CL [(q0, .inr (8, [.null, .null, .null, .ref q1, .ref q2, .int 0, .int 0, .int 0, .int 0, .int 0, .int 0, .int 0])), (q1, .inl (k1, (40, .inl fun _ => 0))), (q2, .inl (k2, (40, .inl fun _ => 0)))] H := hP
  have hD : va_D A [(q0, .inr (8, [.null, .null, .null, .ref q1, .ref q2, .int 0, .int 0, .int 0, .int 0, .int 0, .int 0, .int 0])), (q1, .inl (k1, (40, .inl fun _ => 0))), (q2, .inl (k2, (40, .inl fun _ => 0)))] := hD
  refine lv_aload_n hx hb (show decode prog_10_method_1_code 20 = .ok (.aload_n 0, 1) by decide +kernel) rfl (lv_at hl 0 rfl) ?_
  refine lv_aload_n hx hb (show decode prog_10_method_1_code 21 = .ok (.aload_n 1, 1) by decide +kernel) rfl (lv_at hl 1 rfl) ?_
  refine va_putF (ci := 8) (v := .ref p0) (ty := .object "FrameBench$Tape") (C := R_Re) (T := F_Re) (N := 12) hx hb hts g_Re t_Re t_Re_ok n_Re hown hK hP hD hS 0 rfl rfl 0 (by decide) (hts _ (lw_g_of (List.mem_of_getElem? (i := 292) (by decide +kernel)) rfl)) (fun _ h9 => h9) rfl hin rfl (by decide +kernel) rfl rfl (Nat.le_of_ble_eq_true rfl) (show decode prog_10_method_1_code 22 = .ok (.putfield 18, 3) by decide +kernel) (fun H locs hP hD hS => ?_)
  have hP : va_P D d_CL [(q0, .inr (8, [.ref p0, .null, .null, .ref q1, .ref q2, .int 0, .int 0, .int 0, .int 0, .int 0, .int 0, .int 0])), (q1, .inl (k1, (40, .inl fun _ => 0))), (q2, .inl (k2, (40, .inl fun _ => 0)))] H := hP
  have hD : va_D A [(q0, .inr (8, [.ref p0, .null, .null, .ref q1, .ref q2, .int 0, .int 0, .int 0, .int 0, .int 0, .int 0, .int 0])), (q1, .inl (k1, (40, .inl fun _ => 0))), (q2, .inl (k2, (40, .inl fun _ => 0)))] := hD
  refine lv_aload_n hx hb (show decode prog_10_method_1_code 25 = .ok (.aload_n 0, 1) by decide +kernel) rfl (lv_at hl 0 rfl) ?_
  refine lv_aload_n hx hb (show decode prog_10_method_1_code 26 = .ok (.aload_n 2, 1) by decide +kernel) rfl (lv_at hl 2 rfl) ?_
  refine va_putF (ci := 8) (v := .ref p1) (ty := .object "FrameBench$Nodes") (C := R_Re) (T := F_Re) (N := 12) hx hb hts g_Re t_Re t_Re_ok n_Re hown hK hP hD hS 0 rfl rfl 1 (by decide) (hts _ (lw_g_of (List.mem_of_getElem? (i := 293) (by decide +kernel)) rfl)) (fun _ h9 => h9) rfl hin rfl (by decide +kernel) rfl rfl (Nat.le_of_ble_eq_true rfl) (show decode prog_10_method_1_code 27 = .ok (.putfield 22, 3) by decide +kernel) (fun H locs hP hD hS => ?_)
  have hP : va_P D d_CL [(q0, .inr (8, [.ref p0, .ref p1, .null, .ref q1, .ref q2, .int 0, .int 0, .int 0, .int 0, .int 0, .int 0, .int 0])), (q1, .inl (k1, (40, .inl fun _ => 0))), (q2, .inl (k2, (40, .inl fun _ => 0)))] H := hP
  have hD : va_D A [(q0, .inr (8, [.ref p0, .ref p1, .null, .ref q1, .ref q2, .int 0, .int 0, .int 0, .int 0, .int 0, .int 0, .int 0])), (q1, .inl (k1, (40, .inl fun _ => 0))), (q2, .inl (k2, (40, .inl fun _ => 0)))] := hD
  refine lv_aload_n hx hb (show decode prog_10_method_1_code 30 = .ok (.aload_n 0, 1) by decide +kernel) rfl (lv_at hl 0 rfl) ?_
  refine lv_aload_n hx hb (show decode prog_10_method_1_code 31 = .ok (.aload_n 3, 1) by decide +kernel) rfl (lv_at hl 3 rfl) ?_
  refine va_putF (ci := 8) (v := .ref p2) (ty := .object "FrameBench$Constants") (C := R_Re) (T := F_Re) (N := 12) hx hb hts g_Re t_Re t_Re_ok n_Re hown hK hP hD hS 0 rfl rfl 2 (by decide) (hts _ (lw_g_of (List.mem_of_getElem? (i := 294) (by decide +kernel)) rfl)) (fun _ h9 => h9) rfl hin rfl (by decide +kernel) rfl rfl (Nat.le_of_ble_eq_true rfl) (show decode prog_10_method_1_code 32 = .ok (.putfield 26, 3) by decide +kernel) (fun H locs hP hD hS => ?_)
  have hP : va_P D d_CL [(q0, .inr (8, [.ref p0, .ref p1, .ref p2, .ref q1, .ref q2, .int 0, .int 0, .int 0, .int 0, .int 0, .int 0, .int 0])), (q1, .inl (k1, (40, .inl fun _ => 0))), (q2, .inl (k2, (40, .inl fun _ => 0)))] H := hP
  have hD : va_D A [(q0, .inr (8, [.ref p0, .ref p1, .ref p2, .ref q1, .ref q2, .int 0, .int 0, .int 0, .int 0, .int 0, .int 0, .int 0])), (q1, .inl (k1, (40, .inl fun _ => 0))), (q2, .inl (k2, (40, .inl fun _ => 0)))] := hD
  exact W.vret hx hb hr (fun t ht hW => ⟨⟨(fun k => match k with
    | 0 => q1
    | 1 => q2
    | _ => 0, fun k => match k with
    | 0 => k1
    | 1 => k2
    | _ => k1), rfl, trivial, show va_P D d_CL [(q0, .inr (8, [.ref p0, .ref p1, .ref p2, .ref q1, .ref q2, .int 0, .int 0, .int 0, .int 0, .int 0, .int 0, .int 0])), (q1, .inl (k1, (40, .inl fun _ => 0))), (q2, .inl (k2, (40, .inl fun _ => 0)))] t.heap by rw [ht]; exact hP, va_K.moved hW.alike hK, hD⟩, hS.F ht⟩) hS.2.2 (show decode prog_10_method_1_code 35 = .ok (.return_, 1) by decide +kernel)
def w_Ma (q0 p0 p1 p2 p3 : Nat) (u : (Nat → Nat) × (Nat → ClassId)) : va_W := [(q0, .inr (4, [.ref p0, .ref p1, .ref p2, .ref p3, .int 0, .int 0, .int 0, .int 0]))]
def ty_Ma (u : (Nat → Nat) × (Nat → ClassId)) : List (ClassId × FieldType) := []
set_option maxHeartbeats 4000000 in
set_option maxRecDepth 100000 in
theorem c_Ma_init (l : Launch) (D : va_G) (q0 p0 p1 p2 p3 sz : Nat) : Met l ⟨R_Ma, "<init>", "(LFrameBench$Nodes;LFrameBench$Constants;LFrameBench$Meter;LFrameBench$Cells;)V"⟩ (Cond.code ⟨R_Ma, "<init>", "(LFrameBench$Nodes;LFrameBench$Constants;LFrameBench$Meter;LFrameBench$Cells;)V"⟩ prog_6_method_1_code 5 none :: lw_g) ({ frames := 1, cells := 0, slots := 0, locals := 40 }) (va_Pc [.ref q0, .ref p0, .ref p1, .ref p2, .ref p3] (fun U => U.heap.size = sz ∧ va_P D d_CL [(q0, .inr (4, [.null, .null, .null, .null, .int 0, .int 0, .int 0, .int 0]))] U.heap ∧ va_K D d_CL [] U ∧ va_D (fun _ => True) [(q0, .inr (4, [.null, .null, .null, .null, .int 0, .int 0, .int 0, .int 0]))])) (va_Qv (S := (Nat → Nat) × (Nat → ClassId)) (fun _ => True) (fun u t => va_P D d_CL (w_Ma q0 p0 p1 p2 p3 u) t.heap ∧ va_K D d_CL (ty_Ma u) t ∧ va_D (va_A [(q0, .inr (4, [.null, .null, .null, .null, .int 0, .int 0, .int 0, .int 0]))] sz) (w_Ma q0 p0 p1 p2 p3 u)) (va_A [(q0, .inr (4, [.null, .null, .null, .null, .int 0, .int 0, .int 0, .int 0]))] sz)) 0 0 (va_A [(q0, .inr (4, [.null, .null, .null, .null, .int 0, .int 0, .int 0, .int 0]))] sz) := by
  refine Met.ofW (cc := prog_6_method_1_code) (maxL := 5) (ret := none) (by decide) rfl ?_
  intro p e s m args below meth c s₁ B hml hv
  obtain ⟨rfl, hsz, hP, hK, hD0⟩ := hv
  have hx := B.exec
  have hb := B.bytes
  have hr := B.returns
  have hts0 := atoms_spec (ws := Cond.code ⟨R_Ma, "<init>", "(LFrameBench$Nodes;LFrameBench$Constants;LFrameBench$Meter;LFrameBench$Cells;)V"⟩ prog_6_method_1_code 5 none :: lw_g) B.pre
  have hts : ∀ w ∈ lw_g, w.before _ s = true := fun w hw => hts0 w (List.mem_cons_of_mem _ hw)
  have hown : s.vm.findClass R_Ma = some m.cls := findClass_of_methodNamed B.named
  have hlocks := B.notSynchronized
  have hin : meth.name = "<init>" := (name_of_methodNamed B.named B.method).1
  subst hsz
  have hD := hD0.self (sz := s.heap.size)
  generalize hAe : va_A [(q0, .inr (4, [.null, .null, .null, .null, .int 0, .int 0, .int 0, .int 0]))] s.heap.size = A at hD ⊢
  have hA : ∀ q : Nat, s.heap.size ≤ q → A q := fun q h => by rw [← hAe]; exact Or.inr h
  have hS : va_S A s.heap s.heap [] := va_S.rf
  have hl := lv_entry ([.ref q0, .ref p0, .ref p1, .ref p2, .ref p3]) (n := 5) (Nat.le_of_ble_eq_true rfl)
  rw [lg_entry_eq]
  generalize (lg_sl ([.ref q0, .ref p0, .ref p1, .ref p2, .ref p3]) ++ List.replicate (5 - (lg_sl ([.ref q0, .ref p0, .ref p1, .ref p2, .ref p3])).length) Slot.unset).toArray = ls at hl ⊢
  have hl : lv_has ls 5 [(0, .ref q0), (1, .ref p0), (2, .ref p1), (3, .ref p2), (4, .ref p3)] := hl
  refine lv_aload_n hx hb (show decode prog_6_method_1_code 0 = .ok (.aload_n 0, 1) by decide +kernel) rfl (lv_at hl 0 rfl) ?_
  refine W.objInit hx hb hown (hts _ (lw_g_of (List.mem_of_getElem? (i := 334) (by decide +kernel)) rfl)) (hts _ (lw_g_of (List.mem_of_getElem? (i := 134) (by decide +kernel)) rfl)) (hts _ (lw_g_of (List.mem_of_getElem? (i := 135) (by decide +kernel)) rfl)) rfl (by rw [hml]; exact hl.1) rfl (show decode prog_6_method_1_code 1 = .ok (.invokespecial 3, 3) by decide +kernel) (Nat.le_of_ble_eq_true rfl) (Nat.le_of_ble_eq_true rfl) ?_
  refine W.eq (g2 := F0 m 4 ls []) rfl ?_
  refine lv_aload_n hx hb (show decode prog_6_method_1_code 4 = .ok (.aload_n 0, 1) by decide +kernel) rfl (lv_at hl 0 rfl) ?_
  refine lv_aload_n hx hb (show decode prog_6_method_1_code 5 = .ok (.aload_n 1, 1) by decide +kernel) rfl (lv_at hl 1 rfl) ?_
  refine va_putF (ci := 4) (v := .ref p0) (ty := .object "FrameBench$Nodes") (C := R_Ma) (T := F_Ma) (N := 8) hx hb hts g_Ma t_Ma t_Ma_ok n_Ma hown hK hP hD hS 0 rfl rfl 0 (by decide) (hts _ (lw_g_of (List.mem_of_getElem? (i := 335) (by decide +kernel)) rfl)) (fun _ h9 => h9) rfl hin rfl (by decide +kernel) rfl rfl (Nat.le_of_ble_eq_true rfl) (show decode prog_6_method_1_code 6 = .ok (.putfield 9, 3) by decide +kernel) (fun H locs hP hD hS => ?_)
  have hP : va_P D d_CL [(q0, .inr (4, [.ref p0, .null, .null, .null, .int 0, .int 0, .int 0, .int 0]))] H := hP
  have hD : va_D A [(q0, .inr (4, [.ref p0, .null, .null, .null, .int 0, .int 0, .int 0, .int 0]))] := hD
  refine lv_aload_n hx hb (show decode prog_6_method_1_code 9 = .ok (.aload_n 0, 1) by decide +kernel) rfl (lv_at hl 0 rfl) ?_
  refine lv_aload_n hx hb (show decode prog_6_method_1_code 10 = .ok (.aload_n 2, 1) by decide +kernel) rfl (lv_at hl 2 rfl) ?_
  refine va_putF (ci := 4) (v := .ref p1) (ty := .object "FrameBench$Constants") (C := R_Ma) (T := F_Ma) (N := 8) hx hb hts g_Ma t_Ma t_Ma_ok n_Ma hown hK hP hD hS 0 rfl rfl 1 (by decide) (hts _ (lw_g_of (List.mem_of_getElem? (i := 336) (by decide +kernel)) rfl)) (fun _ h9 => h9) rfl hin rfl (by decide +kernel) rfl rfl (Nat.le_of_ble_eq_true rfl) (show decode prog_6_method_1_code 11 = .ok (.putfield 15, 3) by decide +kernel) (fun H locs hP hD hS => ?_)
  have hP : va_P D d_CL [(q0, .inr (4, [.ref p0, .ref p1, .null, .null, .int 0, .int 0, .int 0, .int 0]))] H := hP
  have hD : va_D A [(q0, .inr (4, [.ref p0, .ref p1, .null, .null, .int 0, .int 0, .int 0, .int 0]))] := hD
  refine lv_aload_n hx hb (show decode prog_6_method_1_code 14 = .ok (.aload_n 0, 1) by decide +kernel) rfl (lv_at hl 0 rfl) ?_
  refine lv_aload_n hx hb (show decode prog_6_method_1_code 15 = .ok (.aload_n 3, 1) by decide +kernel) rfl (lv_at hl 3 rfl) ?_
  refine va_putF (ci := 4) (v := .ref p2) (ty := .object "FrameBench$Meter") (C := R_Ma) (T := F_Ma) (N := 8) hx hb hts g_Ma t_Ma t_Ma_ok n_Ma hown hK hP hD hS 0 rfl rfl 2 (by decide) (hts _ (lw_g_of (List.mem_of_getElem? (i := 337) (by decide +kernel)) rfl)) (fun _ h9 => h9) rfl hin rfl (by decide +kernel) rfl rfl (Nat.le_of_ble_eq_true rfl) (show decode prog_6_method_1_code 16 = .ok (.putfield 19, 3) by decide +kernel) (fun H locs hP hD hS => ?_)
  have hP : va_P D d_CL [(q0, .inr (4, [.ref p0, .ref p1, .ref p2, .null, .int 0, .int 0, .int 0, .int 0]))] H := hP
  have hD : va_D A [(q0, .inr (4, [.ref p0, .ref p1, .ref p2, .null, .int 0, .int 0, .int 0, .int 0]))] := hD
  refine lv_aload_n hx hb (show decode prog_6_method_1_code 19 = .ok (.aload_n 0, 1) by decide +kernel) rfl (lv_at hl 0 rfl) ?_
  refine lv_aload hx hb (show decode prog_6_method_1_code 20 = .ok (.aload 4, 2) by decide +kernel) (lv_at hl 4 rfl) ?_
  refine va_putF (ci := 4) (v := .ref p3) (ty := .object "FrameBench$Cells") (C := R_Ma) (T := F_Ma) (N := 8) hx hb hts g_Ma t_Ma t_Ma_ok n_Ma hown hK hP hD hS 0 rfl rfl 3 (by decide) (hts _ (lw_g_of (List.mem_of_getElem? (i := 338) (by decide +kernel)) rfl)) (fun _ h9 => h9) rfl hin rfl (by decide +kernel) rfl rfl (Nat.le_of_ble_eq_true rfl) (show decode prog_6_method_1_code 22 = .ok (.putfield 23, 3) by decide +kernel) (fun H locs hP hD hS => ?_)
  have hP : va_P D d_CL [(q0, .inr (4, [.ref p0, .ref p1, .ref p2, .ref p3, .int 0, .int 0, .int 0, .int 0]))] H := hP
  have hD : va_D A [(q0, .inr (4, [.ref p0, .ref p1, .ref p2, .ref p3, .int 0, .int 0, .int 0, .int 0]))] := hD
  exact W.vret hx hb hr (fun t ht hW => ⟨⟨(fun k => match k with
    | _ => 0, fun k => match k with
    | _ => D.1 0), rfl, trivial, show va_P D d_CL [(q0, .inr (4, [.ref p0, .ref p1, .ref p2, .ref p3, .int 0, .int 0, .int 0, .int 0]))] t.heap by rw [ht]; exact hP, va_K.moved hW.alike hK, hD⟩, hS.F ht⟩) hS.2.2 (show decode prog_6_method_1_code 25 = .ok (.return_, 1) by decide +kernel)
def w_Ju (q0 p0 p1 p2 p3 p4 : Nat) (u : (Nat → Nat) × (Nat → ClassId)) : va_W := [(q0, .inr (3, [.ref p0, .ref p1, .ref p2, .ref p3, .ref p4, .int 0, .int 0, .int 0, .int 0]))]
def ty_Ju (u : (Nat → Nat) × (Nat → ClassId)) : List (ClassId × FieldType) := []
set_option maxHeartbeats 4000000 in
set_option maxRecDepth 100000 in
theorem c_Ju_init (l : Launch) (D : va_G) (q0 p0 p1 p2 p3 p4 sz : Nat) : Met l ⟨R_Ju, "<init>", "(LFrameBench$Nodes;LFrameBench$Constants;LFrameBench$Meter;LFrameBench$Cells;LFrameBench$Machine;)V"⟩ (Cond.code ⟨R_Ju, "<init>", "(LFrameBench$Nodes;LFrameBench$Constants;LFrameBench$Meter;LFrameBench$Cells;LFrameBench$Machine;)V"⟩ prog_5_method_1_code 6 none :: lw_g) ({ frames := 1, cells := 0, slots := 0, locals := 40 }) (va_Pc [.ref q0, .ref p0, .ref p1, .ref p2, .ref p3, .ref p4] (fun U => U.heap.size = sz ∧ va_P D d_CL [(q0, .inr (3, [.null, .null, .null, .null, .null, .int 0, .int 0, .int 0, .int 0]))] U.heap ∧ va_K D d_CL [] U ∧ va_D (fun _ => True) [(q0, .inr (3, [.null, .null, .null, .null, .null, .int 0, .int 0, .int 0, .int 0]))])) (va_Qv (S := (Nat → Nat) × (Nat → ClassId)) (fun _ => True) (fun u t => va_P D d_CL (w_Ju q0 p0 p1 p2 p3 p4 u) t.heap ∧ va_K D d_CL (ty_Ju u) t ∧ va_D (va_A [(q0, .inr (3, [.null, .null, .null, .null, .null, .int 0, .int 0, .int 0, .int 0]))] sz) (w_Ju q0 p0 p1 p2 p3 p4 u)) (va_A [(q0, .inr (3, [.null, .null, .null, .null, .null, .int 0, .int 0, .int 0, .int 0]))] sz)) 0 0 (va_A [(q0, .inr (3, [.null, .null, .null, .null, .null, .int 0, .int 0, .int 0, .int 0]))] sz) := by
  refine Met.ofW (cc := prog_5_method_1_code) (maxL := 6) (ret := none) (by decide) rfl ?_
  intro p e s m args below meth c s₁ B hml hv
  obtain ⟨rfl, hsz, hP, hK, hD0⟩ := hv
  have hx := B.exec
  have hb := B.bytes
  have hr := B.returns
  have hts0 := atoms_spec (ws := Cond.code ⟨R_Ju, "<init>", "(LFrameBench$Nodes;LFrameBench$Constants;LFrameBench$Meter;LFrameBench$Cells;LFrameBench$Machine;)V"⟩ prog_5_method_1_code 6 none :: lw_g) B.pre
  have hts : ∀ w ∈ lw_g, w.before _ s = true := fun w hw => hts0 w (List.mem_cons_of_mem _ hw)
  have hown : s.vm.findClass R_Ju = some m.cls := findClass_of_methodNamed B.named
  have hlocks := B.notSynchronized
  have hin : meth.name = "<init>" := (name_of_methodNamed B.named B.method).1
  subst hsz
  have hD := hD0.self (sz := s.heap.size)
  generalize hAe : va_A [(q0, .inr (3, [.null, .null, .null, .null, .null, .int 0, .int 0, .int 0, .int 0]))] s.heap.size = A at hD ⊢
  have hA : ∀ q : Nat, s.heap.size ≤ q → A q := fun q h => by rw [← hAe]; exact Or.inr h
  have hS : va_S A s.heap s.heap [] := va_S.rf
  have hl := lv_entry ([.ref q0, .ref p0, .ref p1, .ref p2, .ref p3, .ref p4]) (n := 6) (Nat.le_of_ble_eq_true rfl)
  rw [lg_entry_eq]
  generalize (lg_sl ([.ref q0, .ref p0, .ref p1, .ref p2, .ref p3, .ref p4]) ++ List.replicate (6 - (lg_sl ([.ref q0, .ref p0, .ref p1, .ref p2, .ref p3, .ref p4])).length) Slot.unset).toArray = ls at hl ⊢
  have hl : lv_has ls 6 [(0, .ref q0), (1, .ref p0), (2, .ref p1), (3, .ref p2), (4, .ref p3), (5, .ref p4)] := hl
  refine lv_aload_n hx hb (show decode prog_5_method_1_code 0 = .ok (.aload_n 0, 1) by decide +kernel) rfl (lv_at hl 0 rfl) ?_
  refine W.objInit hx hb hown (hts _ (lw_g_of (List.mem_of_getElem? (i := 365) (by decide +kernel)) rfl)) (hts _ (lw_g_of (List.mem_of_getElem? (i := 134) (by decide +kernel)) rfl)) (hts _ (lw_g_of (List.mem_of_getElem? (i := 135) (by decide +kernel)) rfl)) rfl (by rw [hml]; exact hl.1) rfl (show decode prog_5_method_1_code 1 = .ok (.invokespecial 1, 3) by decide +kernel) (Nat.le_of_ble_eq_true rfl) (Nat.le_of_ble_eq_true rfl) ?_
  refine W.eq (g2 := F0 m 4 ls []) rfl ?_
  refine lv_aload_n hx hb (show decode prog_5_method_1_code 4 = .ok (.aload_n 0, 1) by decide +kernel) rfl (lv_at hl 0 rfl) ?_
  refine lv_aload_n hx hb (show decode prog_5_method_1_code 5 = .ok (.aload_n 1, 1) by decide +kernel) rfl (lv_at hl 1 rfl) ?_
  refine va_putF (ci := 3) (v := .ref p0) (ty := .object "FrameBench$Nodes") (C := R_Ju) (T := F_Ju) (N := 9) hx hb hts g_Ju t_Ju t_Ju_ok n_Ju hown hK hP hD hS 0 rfl rfl 0 (by decide) (hts _ (lw_g_of (List.mem_of_getElem? (i := 366) (by decide +kernel)) rfl)) (fun _ h9 => h9) rfl hin rfl (by decide +kernel) rfl rfl (Nat.le_of_ble_eq_true rfl) (show decode prog_5_method_1_code 6 = .ok (.putfield 7, 3) by decide +kernel) (fun H locs hP hD hS => ?_)
  have hP : va_P D d_CL [(q0, .inr (3, [.ref p0, .null, .null, .null, .null, .int 0, .int 0, .int 0, .int 0]))] H := hP
  have hD : va_D A [(q0, .inr (3, [.ref p0, .null, .null, .null, .null, .int 0, .int 0, .int 0, .int 0]))] := hD
  refine lv_aload_n hx hb (show decode prog_5_method_1_code 9 = .ok (.aload_n 0, 1) by decide +kernel) rfl (lv_at hl 0 rfl) ?_
  refine lv_aload_n hx hb (show decode prog_5_method_1_code 10 = .ok (.aload_n 2, 1) by decide +kernel) rfl (lv_at hl 2 rfl) ?_
  refine va_putF (ci := 3) (v := .ref p1) (ty := .object "FrameBench$Constants") (C := R_Ju) (T := F_Ju) (N := 9) hx hb hts g_Ju t_Ju t_Ju_ok n_Ju hown hK hP hD hS 0 rfl rfl 1 (by decide) (hts _ (lw_g_of (List.mem_of_getElem? (i := 367) (by decide +kernel)) rfl)) (fun _ h9 => h9) rfl hin rfl (by decide +kernel) rfl rfl (Nat.le_of_ble_eq_true rfl) (show decode prog_5_method_1_code 11 = .ok (.putfield 13, 3) by decide +kernel) (fun H locs hP hD hS => ?_)
  have hP : va_P D d_CL [(q0, .inr (3, [.ref p0, .ref p1, .null, .null, .null, .int 0, .int 0, .int 0, .int 0]))] H := hP
  have hD : va_D A [(q0, .inr (3, [.ref p0, .ref p1, .null, .null, .null, .int 0, .int 0, .int 0, .int 0]))] := hD
  refine lv_aload_n hx hb (show decode prog_5_method_1_code 14 = .ok (.aload_n 0, 1) by decide +kernel) rfl (lv_at hl 0 rfl) ?_
  refine lv_aload_n hx hb (show decode prog_5_method_1_code 15 = .ok (.aload_n 3, 1) by decide +kernel) rfl (lv_at hl 3 rfl) ?_
  refine va_putF (ci := 3) (v := .ref p2) (ty := .object "FrameBench$Meter") (C := R_Ju) (T := F_Ju) (N := 9) hx hb hts g_Ju t_Ju t_Ju_ok n_Ju hown hK hP hD hS 0 rfl rfl 2 (by decide) (hts _ (lw_g_of (List.mem_of_getElem? (i := 368) (by decide +kernel)) rfl)) (fun _ h9 => h9) rfl hin rfl (by decide +kernel) rfl rfl (Nat.le_of_ble_eq_true rfl) (show decode prog_5_method_1_code 16 = .ok (.putfield 17, 3) by decide +kernel) (fun H locs hP hD hS => ?_)
  have hP : va_P D d_CL [(q0, .inr (3, [.ref p0, .ref p1, .ref p2, .null, .null, .int 0, .int 0, .int 0, .int 0]))] H := hP
  have hD : va_D A [(q0, .inr (3, [.ref p0, .ref p1, .ref p2, .null, .null, .int 0, .int 0, .int 0, .int 0]))] := hD
  refine lv_aload_n hx hb (show decode prog_5_method_1_code 19 = .ok (.aload_n 0, 1) by decide +kernel) rfl (lv_at hl 0 rfl) ?_
  refine lv_aload hx hb (show decode prog_5_method_1_code 20 = .ok (.aload 4, 2) by decide +kernel) (lv_at hl 4 rfl) ?_
  refine va_putF (ci := 3) (v := .ref p3) (ty := .object "FrameBench$Cells") (C := R_Ju) (T := F_Ju) (N := 9) hx hb hts g_Ju t_Ju t_Ju_ok n_Ju hown hK hP hD hS 0 rfl rfl 3 (by decide) (hts _ (lw_g_of (List.mem_of_getElem? (i := 369) (by decide +kernel)) rfl)) (fun _ h9 => h9) rfl hin rfl (by decide +kernel) rfl rfl (Nat.le_of_ble_eq_true rfl) (show decode prog_5_method_1_code 22 = .ok (.putfield 21, 3) by decide +kernel) (fun H locs hP hD hS => ?_)
  have hP : va_P D d_CL [(q0, .inr (3, [.ref p0, .ref p1, .ref p2, .ref p3, .null, .int 0, .int 0, .int 0, .int 0]))] H := hP
  have hD : va_D A [(q0, .inr (3, [.ref p0, .ref p1, .ref p2, .ref p3, .null, .int 0, .int 0, .int 0, .int 0]))] := hD
  refine lv_aload_n hx hb (show decode prog_5_method_1_code 25 = .ok (.aload_n 0, 1) by decide +kernel) rfl (lv_at hl 0 rfl) ?_
  refine lv_aload hx hb (show decode prog_5_method_1_code 26 = .ok (.aload 5, 2) by decide +kernel) (lv_at hl 5 rfl) ?_
  refine va_putF (ci := 3) (v := .ref p4) (ty := .object "FrameBench$Machine") (C := R_Ju) (T := F_Ju) (N := 9) hx hb hts g_Ju t_Ju t_Ju_ok n_Ju hown hK hP hD hS 0 rfl rfl 4 (by decide) (hts _ (lw_g_of (List.mem_of_getElem? (i := 370) (by decide +kernel)) rfl)) (fun _ h9 => h9) rfl hin rfl (by decide +kernel) rfl rfl (Nat.le_of_ble_eq_true rfl) (show decode prog_5_method_1_code 28 = .ok (.putfield 25, 3) by decide +kernel) (fun H locs hP hD hS => ?_)
  have hP : va_P D d_CL [(q0, .inr (3, [.ref p0, .ref p1, .ref p2, .ref p3, .ref p4, .int 0, .int 0, .int 0, .int 0]))] H := hP
  have hD : va_D A [(q0, .inr (3, [.ref p0, .ref p1, .ref p2, .ref p3, .ref p4, .int 0, .int 0, .int 0, .int 0]))] := hD
  exact W.vret hx hb hr (fun t ht hW => ⟨⟨(fun k => match k with
    | _ => 0, fun k => match k with
    | _ => D.1 0), rfl, trivial, show va_P D d_CL [(q0, .inr (3, [.ref p0, .ref p1, .ref p2, .ref p3, .ref p4, .int 0, .int 0, .int 0, .int 0]))] t.heap by rw [ht]; exact hP, va_K.moved hW.alike hK, hD⟩, hS.F ht⟩) hS.2.2 (show decode prog_5_method_1_code 31 = .ok (.return_, 1) by decide +kernel)
def w_Ck (q0 p0 p1 p2 p3 p4 p5 : Nat) (u : (Nat → Nat) × (Nat → ClassId)) : va_W := [(q0, .inr (1, [.ref p0, .ref p1, .ref p2, .ref p3, .ref p4, .ref p5, .int 0, .int 0]))]
def ty_Ck (u : (Nat → Nat) × (Nat → ClassId)) : List (ClassId × FieldType) := []
set_option maxHeartbeats 4000000 in
set_option maxRecDepth 100000 in
theorem c_Ck_init (l : Launch) (D : va_G) (q0 p0 p1 p2 p3 p4 p5 sz : Nat) : Met l ⟨R_Ck, "<init>", "(LFrameBench$Nodes;LFrameBench$Constants;LFrameBench$Meter;LFrameBench$Cells;LFrameBench$Machine;LFrameBench$Judge;)V"⟩ (Cond.code ⟨R_Ck, "<init>", "(LFrameBench$Nodes;LFrameBench$Constants;LFrameBench$Meter;LFrameBench$Cells;LFrameBench$Machine;LFrameBench$Judge;)V"⟩ prog_3_method_1_code 7 none :: lw_g) ({ frames := 1, cells := 0, slots := 0, locals := 40 }) (va_Pc [.ref q0, .ref p0, .ref p1, .ref p2, .ref p3, .ref p4, .ref p5] (fun U => U.heap.size = sz ∧ va_P D d_CL [(q0, .inr (1, [.null, .null, .null, .null, .null, .null, .int 0, .int 0]))] U.heap ∧ va_K D d_CL [] U ∧ va_D (fun _ => True) [(q0, .inr (1, [.null, .null, .null, .null, .null, .null, .int 0, .int 0]))])) (va_Qv (S := (Nat → Nat) × (Nat → ClassId)) (fun _ => True) (fun u t => va_P D d_CL (w_Ck q0 p0 p1 p2 p3 p4 p5 u) t.heap ∧ va_K D d_CL (ty_Ck u) t ∧ va_D (va_A [(q0, .inr (1, [.null, .null, .null, .null, .null, .null, .int 0, .int 0]))] sz) (w_Ck q0 p0 p1 p2 p3 p4 p5 u)) (va_A [(q0, .inr (1, [.null, .null, .null, .null, .null, .null, .int 0, .int 0]))] sz)) 0 0 (va_A [(q0, .inr (1, [.null, .null, .null, .null, .null, .null, .int 0, .int 0]))] sz) := by
  refine Met.ofW (cc := prog_3_method_1_code) (maxL := 7) (ret := none) (by decide) rfl ?_
  intro p e s m args below meth c s₁ B hml hv
  obtain ⟨rfl, hsz, hP, hK, hD0⟩ := hv
  have hx := B.exec
  have hb := B.bytes
  have hr := B.returns
  have hts0 := atoms_spec (ws := Cond.code ⟨R_Ck, "<init>", "(LFrameBench$Nodes;LFrameBench$Constants;LFrameBench$Meter;LFrameBench$Cells;LFrameBench$Machine;LFrameBench$Judge;)V"⟩ prog_3_method_1_code 7 none :: lw_g) B.pre
  have hts : ∀ w ∈ lw_g, w.before _ s = true := fun w hw => hts0 w (List.mem_cons_of_mem _ hw)
  have hown : s.vm.findClass R_Ck = some m.cls := findClass_of_methodNamed B.named
  have hlocks := B.notSynchronized
  have hin : meth.name = "<init>" := (name_of_methodNamed B.named B.method).1
  subst hsz
  have hD := hD0.self (sz := s.heap.size)
  generalize hAe : va_A [(q0, .inr (1, [.null, .null, .null, .null, .null, .null, .int 0, .int 0]))] s.heap.size = A at hD ⊢
  have hA : ∀ q : Nat, s.heap.size ≤ q → A q := fun q h => by rw [← hAe]; exact Or.inr h
  have hS : va_S A s.heap s.heap [] := va_S.rf
  have hl := lv_entry ([.ref q0, .ref p0, .ref p1, .ref p2, .ref p3, .ref p4, .ref p5]) (n := 7) (Nat.le_of_ble_eq_true rfl)
  rw [lg_entry_eq]
  generalize (lg_sl ([.ref q0, .ref p0, .ref p1, .ref p2, .ref p3, .ref p4, .ref p5]) ++ List.replicate (7 - (lg_sl ([.ref q0, .ref p0, .ref p1, .ref p2, .ref p3, .ref p4, .ref p5])).length) Slot.unset).toArray = ls at hl ⊢
  have hl : lv_has ls 7 [(0, .ref q0), (1, .ref p0), (2, .ref p1), (3, .ref p2), (4, .ref p3), (5, .ref p4), (6, .ref p5)] := hl
  refine lv_aload_n hx hb (show decode prog_3_method_1_code 0 = .ok (.aload_n 0, 1) by decide +kernel) rfl (lv_at hl 0 rfl) ?_
  refine W.objInit hx hb hown (hts _ (lw_g_of (List.mem_of_getElem? (i := 399) (by decide +kernel)) rfl)) (hts _ (lw_g_of (List.mem_of_getElem? (i := 134) (by decide +kernel)) rfl)) (hts _ (lw_g_of (List.mem_of_getElem? (i := 135) (by decide +kernel)) rfl)) rfl (by rw [hml]; exact hl.1) rfl (show decode prog_3_method_1_code 1 = .ok (.invokespecial 3, 3) by decide +kernel) (Nat.le_of_ble_eq_true rfl) (Nat.le_of_ble_eq_true rfl) ?_
  refine W.eq (g2 := F0 m 4 ls []) rfl ?_
  refine lv_aload_n hx hb (show decode prog_3_method_1_code 4 = .ok (.aload_n 0, 1) by decide +kernel) rfl (lv_at hl 0 rfl) ?_
  refine lv_aload_n hx hb (show decode prog_3_method_1_code 5 = .ok (.aload_n 1, 1) by decide +kernel) rfl (lv_at hl 1 rfl) ?_
  refine va_putF (ci := 1) (v := .ref p0) (ty := .object "FrameBench$Nodes") (C := R_Ck) (T := F_Ck) (N := 8) hx hb hts g_Ck t_Ck t_Ck_ok n_Ck hown hK hP hD hS 0 rfl rfl 0 (by decide) (hts _ (lw_g_of (List.mem_of_getElem? (i := 400) (by decide +kernel)) rfl)) (fun _ h9 => h9) rfl hin rfl (by decide +kernel) rfl rfl (Nat.le_of_ble_eq_true rfl) (show decode prog_3_method_1_code 6 = .ok (.putfield 9, 3) by decide +kernel) (fun H locs hP hD hS => ?_)
  have hP : va_P D d_CL [(q0, .inr (1, [.ref p0, .null, .null, .null, .null, .null, .int 0, .int 0]))] H := hP
  have hD : va_D A [(q0, .inr (1, [.ref p0, .null, .null, .null, .null, .null, .int 0, .int 0]))] := hD
  refine lv_aload_n hx hb (show decode prog_3_method_1_code 9 = .ok (.aload_n 0, 1) by decide +kernel) rfl (lv_at hl 0 rfl) ?_
  refine lv_aload_n hx hb (show decode prog_3_method_1_code 10 = .ok (.aload_n 2, 1) by decide +kernel) rfl (lv_at hl 2 rfl) ?_
  refine va_putF (ci := 1) (v := .ref p1) (ty := .object "FrameBench$Constants") (C := R_Ck) (T := F_Ck) (N := 8) hx hb hts g_Ck t_Ck t_Ck_ok n_Ck hown hK hP hD hS 0 rfl rfl 1 (by decide) (hts _ (lw_g_of (List.mem_of_getElem? (i := 401) (by decide +kernel)) rfl)) (fun _ h9 => h9) rfl hin rfl (by decide +kernel) rfl rfl (Nat.le_of_ble_eq_true rfl) (show decode prog_3_method_1_code 11 = .ok (.putfield 15, 3) by decide +kernel) (fun H locs hP hD hS => ?_)
  have hP : va_P D d_CL [(q0, .inr (1, [.ref p0, .ref p1, .null, .null, .null, .null, .int 0, .int 0]))] H := hP
  have hD : va_D A [(q0, .inr (1, [.ref p0, .ref p1, .null, .null, .null, .null, .int 0, .int 0]))] := hD
  refine lv_aload_n hx hb (show decode prog_3_method_1_code 14 = .ok (.aload_n 0, 1) by decide +kernel) rfl (lv_at hl 0 rfl) ?_
  refine lv_aload_n hx hb (show decode prog_3_method_1_code 15 = .ok (.aload_n 3, 1) by decide +kernel) rfl (lv_at hl 3 rfl) ?_
  refine va_putF (ci := 1) (v := .ref p2) (ty := .object "FrameBench$Meter") (C := R_Ck) (T := F_Ck) (N := 8) hx hb hts g_Ck t_Ck t_Ck_ok n_Ck hown hK hP hD hS 0 rfl rfl 2 (by decide) (hts _ (lw_g_of (List.mem_of_getElem? (i := 402) (by decide +kernel)) rfl)) (fun _ h9 => h9) rfl hin rfl (by decide +kernel) rfl rfl (Nat.le_of_ble_eq_true rfl) (show decode prog_3_method_1_code 16 = .ok (.putfield 19, 3) by decide +kernel) (fun H locs hP hD hS => ?_)
  have hP : va_P D d_CL [(q0, .inr (1, [.ref p0, .ref p1, .ref p2, .null, .null, .null, .int 0, .int 0]))] H := hP
  have hD : va_D A [(q0, .inr (1, [.ref p0, .ref p1, .ref p2, .null, .null, .null, .int 0, .int 0]))] := hD
  refine lv_aload_n hx hb (show decode prog_3_method_1_code 19 = .ok (.aload_n 0, 1) by decide +kernel) rfl (lv_at hl 0 rfl) ?_
  refine lv_aload hx hb (show decode prog_3_method_1_code 20 = .ok (.aload 4, 2) by decide +kernel) (lv_at hl 4 rfl) ?_
  refine va_putF (ci := 1) (v := .ref p3) (ty := .object "FrameBench$Cells") (C := R_Ck) (T := F_Ck) (N := 8) hx hb hts g_Ck t_Ck t_Ck_ok n_Ck hown hK hP hD hS 0 rfl rfl 3 (by decide) (hts _ (lw_g_of (List.mem_of_getElem? (i := 403) (by decide +kernel)) rfl)) (fun _ h9 => h9) rfl hin rfl (by decide +kernel) rfl rfl (Nat.le_of_ble_eq_true rfl) (show decode prog_3_method_1_code 22 = .ok (.putfield 23, 3) by decide +kernel) (fun H locs hP hD hS => ?_)
  have hP : va_P D d_CL [(q0, .inr (1, [.ref p0, .ref p1, .ref p2, .ref p3, .null, .null, .int 0, .int 0]))] H := hP
  have hD : va_D A [(q0, .inr (1, [.ref p0, .ref p1, .ref p2, .ref p3, .null, .null, .int 0, .int 0]))] := hD
  refine lv_aload_n hx hb (show decode prog_3_method_1_code 25 = .ok (.aload_n 0, 1) by decide +kernel) rfl (lv_at hl 0 rfl) ?_
  refine lv_aload hx hb (show decode prog_3_method_1_code 26 = .ok (.aload 5, 2) by decide +kernel) (lv_at hl 5 rfl) ?_
  refine va_putF (ci := 1) (v := .ref p4) (ty := .object "FrameBench$Machine") (C := R_Ck) (T := F_Ck) (N := 8) hx hb hts g_Ck t_Ck t_Ck_ok n_Ck hown hK hP hD hS 0 rfl rfl 4 (by decide) (hts _ (lw_g_of (List.mem_of_getElem? (i := 404) (by decide +kernel)) rfl)) (fun _ h9 => h9) rfl hin rfl (by decide +kernel) rfl rfl (Nat.le_of_ble_eq_true rfl) (show decode prog_3_method_1_code 28 = .ok (.putfield 27, 3) by decide +kernel) (fun H locs hP hD hS => ?_)
  have hP : va_P D d_CL [(q0, .inr (1, [.ref p0, .ref p1, .ref p2, .ref p3, .ref p4, .null, .int 0, .int 0]))] H := hP
  have hD : va_D A [(q0, .inr (1, [.ref p0, .ref p1, .ref p2, .ref p3, .ref p4, .null, .int 0, .int 0]))] := hD
  refine lv_aload_n hx hb (show decode prog_3_method_1_code 31 = .ok (.aload_n 0, 1) by decide +kernel) rfl (lv_at hl 0 rfl) ?_
  refine lv_aload hx hb (show decode prog_3_method_1_code 32 = .ok (.aload 6, 2) by decide +kernel) (lv_at hl 6 rfl) ?_
  refine va_putF (ci := 1) (v := .ref p5) (ty := .object "FrameBench$Judge") (C := R_Ck) (T := F_Ck) (N := 8) hx hb hts g_Ck t_Ck t_Ck_ok n_Ck hown hK hP hD hS 0 rfl rfl 5 (by decide) (hts _ (lw_g_of (List.mem_of_getElem? (i := 405) (by decide +kernel)) rfl)) (fun _ h9 => h9) rfl hin rfl (by decide +kernel) rfl rfl (Nat.le_of_ble_eq_true rfl) (show decode prog_3_method_1_code 34 = .ok (.putfield 31, 3) by decide +kernel) (fun H locs hP hD hS => ?_)
  have hP : va_P D d_CL [(q0, .inr (1, [.ref p0, .ref p1, .ref p2, .ref p3, .ref p4, .ref p5, .int 0, .int 0]))] H := hP
  have hD : va_D A [(q0, .inr (1, [.ref p0, .ref p1, .ref p2, .ref p3, .ref p4, .ref p5, .int 0, .int 0]))] := hD
  exact W.vret hx hb hr (fun t ht hW => ⟨⟨(fun k => match k with
    | _ => 0, fun k => match k with
    | _ => D.1 0), rfl, trivial, show va_P D d_CL [(q0, .inr (1, [.ref p0, .ref p1, .ref p2, .ref p3, .ref p4, .ref p5, .int 0, .int 0]))] t.heap by rw [ht]; exact hP, va_K.moved hW.alike hK, hD⟩, hS.F ht⟩) hS.2.2 (show decode prog_3_method_1_code 37 = .ok (.return_, 1) by decide +kernel)
def w_Wr (q0 p0 p1 p2 p3 p4 p5 : Nat) (u : (Nat → Nat) × (Nat → ClassId)) : va_W := [(q0, .inr (10, [.ref p0, .ref p1, .ref p2, .ref p3, .ref p4, .ref p5, .int 0]))]
def ty_Wr (u : (Nat → Nat) × (Nat → ClassId)) : List (ClassId × FieldType) := []
set_option maxHeartbeats 4000000 in
set_option maxRecDepth 100000 in
theorem c_Wr_init (l : Launch) (D : va_G) (q0 p0 p1 p2 p3 p4 p5 sz : Nat) : Met l ⟨R_Wr, "<init>", "(LFrameBench$Nodes;LFrameBench$Constants;LFrameBench$Meter;LFrameBench$Cells;LFrameBench$Machine;LFrameBench$Page;)V"⟩ (Cond.code ⟨R_Wr, "<init>", "(LFrameBench$Nodes;LFrameBench$Constants;LFrameBench$Meter;LFrameBench$Cells;LFrameBench$Machine;LFrameBench$Page;)V"⟩ prog_12_method_1_code 7 none :: lw_g) ({ frames := 1, cells := 0, slots := 0, locals := 40 }) (va_Pc [.ref q0, .ref p0, .ref p1, .ref p2, .ref p3, .ref p4, .ref p5] (fun U => U.heap.size = sz ∧ va_P D d_CL [(q0, .inr (10, [.null, .null, .null, .null, .null, .null, .int 0]))] U.heap ∧ va_K D d_CL [] U ∧ va_D (fun _ => True) [(q0, .inr (10, [.null, .null, .null, .null, .null, .null, .int 0]))])) (va_Qv (S := (Nat → Nat) × (Nat → ClassId)) (fun _ => True) (fun u t => va_P D d_CL (w_Wr q0 p0 p1 p2 p3 p4 p5 u) t.heap ∧ va_K D d_CL (ty_Wr u) t ∧ va_D (va_A [(q0, .inr (10, [.null, .null, .null, .null, .null, .null, .int 0]))] sz) (w_Wr q0 p0 p1 p2 p3 p4 p5 u)) (va_A [(q0, .inr (10, [.null, .null, .null, .null, .null, .null, .int 0]))] sz)) 0 0 (va_A [(q0, .inr (10, [.null, .null, .null, .null, .null, .null, .int 0]))] sz) := by
  refine Met.ofW (cc := prog_12_method_1_code) (maxL := 7) (ret := none) (by decide) rfl ?_
  intro p e s m args below meth c s₁ B hml hv
  obtain ⟨rfl, hsz, hP, hK, hD0⟩ := hv
  have hx := B.exec
  have hb := B.bytes
  have hr := B.returns
  have hts0 := atoms_spec (ws := Cond.code ⟨R_Wr, "<init>", "(LFrameBench$Nodes;LFrameBench$Constants;LFrameBench$Meter;LFrameBench$Cells;LFrameBench$Machine;LFrameBench$Page;)V"⟩ prog_12_method_1_code 7 none :: lw_g) B.pre
  have hts : ∀ w ∈ lw_g, w.before _ s = true := fun w hw => hts0 w (List.mem_cons_of_mem _ hw)
  have hown : s.vm.findClass R_Wr = some m.cls := findClass_of_methodNamed B.named
  have hlocks := B.notSynchronized
  have hin : meth.name = "<init>" := (name_of_methodNamed B.named B.method).1
  subst hsz
  have hD := hD0.self (sz := s.heap.size)
  generalize hAe : va_A [(q0, .inr (10, [.null, .null, .null, .null, .null, .null, .int 0]))] s.heap.size = A at hD ⊢
  have hA : ∀ q : Nat, s.heap.size ≤ q → A q := fun q h => by rw [← hAe]; exact Or.inr h
  have hS : va_S A s.heap s.heap [] := va_S.rf
  have hl := lv_entry ([.ref q0, .ref p0, .ref p1, .ref p2, .ref p3, .ref p4, .ref p5]) (n := 7) (Nat.le_of_ble_eq_true rfl)
  rw [lg_entry_eq]
  generalize (lg_sl ([.ref q0, .ref p0, .ref p1, .ref p2, .ref p3, .ref p4, .ref p5]) ++ List.replicate (7 - (lg_sl ([.ref q0, .ref p0, .ref p1, .ref p2, .ref p3, .ref p4, .ref p5])).length) Slot.unset).toArray = ls at hl ⊢
  have hl : lv_has ls 7 [(0, .ref q0), (1, .ref p0), (2, .ref p1), (3, .ref p2), (4, .ref p3), (5, .ref p4), (6, .ref p5)] := hl
  refine lv_aload_n hx hb (show decode prog_12_method_1_code 0 = .ok (.aload_n 0, 1) by decide +kernel) rfl (lv_at hl 0 rfl) ?_
  refine W.objInit hx hb hown (hts _ (lw_g_of (List.mem_of_getElem? (i := 430) (by decide +kernel)) rfl)) (hts _ (lw_g_of (List.mem_of_getElem? (i := 134) (by decide +kernel)) rfl)) (hts _ (lw_g_of (List.mem_of_getElem? (i := 135) (by decide +kernel)) rfl)) rfl (by rw [hml]; exact hl.1) rfl (show decode prog_12_method_1_code 1 = .ok (.invokespecial 1, 3) by decide +kernel) (Nat.le_of_ble_eq_true rfl) (Nat.le_of_ble_eq_true rfl) ?_
  refine W.eq (g2 := F0 m 4 ls []) rfl ?_
  refine lv_aload_n hx hb (show decode prog_12_method_1_code 4 = .ok (.aload_n 0, 1) by decide +kernel) rfl (lv_at hl 0 rfl) ?_
  refine lv_aload_n hx hb (show decode prog_12_method_1_code 5 = .ok (.aload_n 1, 1) by decide +kernel) rfl (lv_at hl 1 rfl) ?_
  refine va_putF (ci := 10) (v := .ref p0) (ty := .object "FrameBench$Nodes") (C := R_Wr) (T := F_Wr) (N := 7) hx hb hts g_Wr t_Wr t_Wr_ok n_Wr hown hK hP hD hS 0 rfl rfl 0 (by decide) (hts _ (lw_g_of (List.mem_of_getElem? (i := 431) (by decide +kernel)) rfl)) (fun _ h9 => h9) rfl hin rfl (by decide +kernel) rfl rfl (Nat.le_of_ble_eq_true rfl) (show decode prog_12_method_1_code 6 = .ok (.putfield 7, 3) by decide +kernel) (fun H locs hP hD hS => ?_)
  have hP : va_P D d_CL [(q0, .inr (10, [.ref p0, .null, .null, .null, .null, .null, .int 0]))] H := hP
  have hD : va_D A [(q0, .inr (10, [.ref p0, .null, .null, .null, .null, .null, .int 0]))] := hD
  refine lv_aload_n hx hb (show decode prog_12_method_1_code 9 = .ok (.aload_n 0, 1) by decide +kernel) rfl (lv_at hl 0 rfl) ?_
  refine lv_aload_n hx hb (show decode prog_12_method_1_code 10 = .ok (.aload_n 2, 1) by decide +kernel) rfl (lv_at hl 2 rfl) ?_
  refine va_putF (ci := 10) (v := .ref p1) (ty := .object "FrameBench$Constants") (C := R_Wr) (T := F_Wr) (N := 7) hx hb hts g_Wr t_Wr t_Wr_ok n_Wr hown hK hP hD hS 0 rfl rfl 1 (by decide) (hts _ (lw_g_of (List.mem_of_getElem? (i := 432) (by decide +kernel)) rfl)) (fun _ h9 => h9) rfl hin rfl (by decide +kernel) rfl rfl (Nat.le_of_ble_eq_true rfl) (show decode prog_12_method_1_code 11 = .ok (.putfield 13, 3) by decide +kernel) (fun H locs hP hD hS => ?_)
  have hP : va_P D d_CL [(q0, .inr (10, [.ref p0, .ref p1, .null, .null, .null, .null, .int 0]))] H := hP
  have hD : va_D A [(q0, .inr (10, [.ref p0, .ref p1, .null, .null, .null, .null, .int 0]))] := hD
  refine lv_aload_n hx hb (show decode prog_12_method_1_code 14 = .ok (.aload_n 0, 1) by decide +kernel) rfl (lv_at hl 0 rfl) ?_
  refine lv_aload_n hx hb (show decode prog_12_method_1_code 15 = .ok (.aload_n 3, 1) by decide +kernel) rfl (lv_at hl 3 rfl) ?_
  refine va_putF (ci := 10) (v := .ref p2) (ty := .object "FrameBench$Meter") (C := R_Wr) (T := F_Wr) (N := 7) hx hb hts g_Wr t_Wr t_Wr_ok n_Wr hown hK hP hD hS 0 rfl rfl 2 (by decide) (hts _ (lw_g_of (List.mem_of_getElem? (i := 433) (by decide +kernel)) rfl)) (fun _ h9 => h9) rfl hin rfl (by decide +kernel) rfl rfl (Nat.le_of_ble_eq_true rfl) (show decode prog_12_method_1_code 16 = .ok (.putfield 17, 3) by decide +kernel) (fun H locs hP hD hS => ?_)
  have hP : va_P D d_CL [(q0, .inr (10, [.ref p0, .ref p1, .ref p2, .null, .null, .null, .int 0]))] H := hP
  have hD : va_D A [(q0, .inr (10, [.ref p0, .ref p1, .ref p2, .null, .null, .null, .int 0]))] := hD
  refine lv_aload_n hx hb (show decode prog_12_method_1_code 19 = .ok (.aload_n 0, 1) by decide +kernel) rfl (lv_at hl 0 rfl) ?_
  refine lv_aload hx hb (show decode prog_12_method_1_code 20 = .ok (.aload 4, 2) by decide +kernel) (lv_at hl 4 rfl) ?_
  refine va_putF (ci := 10) (v := .ref p3) (ty := .object "FrameBench$Cells") (C := R_Wr) (T := F_Wr) (N := 7) hx hb hts g_Wr t_Wr t_Wr_ok n_Wr hown hK hP hD hS 0 rfl rfl 3 (by decide) (hts _ (lw_g_of (List.mem_of_getElem? (i := 434) (by decide +kernel)) rfl)) (fun _ h9 => h9) rfl hin rfl (by decide +kernel) rfl rfl (Nat.le_of_ble_eq_true rfl) (show decode prog_12_method_1_code 22 = .ok (.putfield 21, 3) by decide +kernel) (fun H locs hP hD hS => ?_)
  have hP : va_P D d_CL [(q0, .inr (10, [.ref p0, .ref p1, .ref p2, .ref p3, .null, .null, .int 0]))] H := hP
  have hD : va_D A [(q0, .inr (10, [.ref p0, .ref p1, .ref p2, .ref p3, .null, .null, .int 0]))] := hD
  refine lv_aload_n hx hb (show decode prog_12_method_1_code 25 = .ok (.aload_n 0, 1) by decide +kernel) rfl (lv_at hl 0 rfl) ?_
  refine lv_aload hx hb (show decode prog_12_method_1_code 26 = .ok (.aload 5, 2) by decide +kernel) (lv_at hl 5 rfl) ?_
  refine va_putF (ci := 10) (v := .ref p4) (ty := .object "FrameBench$Machine") (C := R_Wr) (T := F_Wr) (N := 7) hx hb hts g_Wr t_Wr t_Wr_ok n_Wr hown hK hP hD hS 0 rfl rfl 4 (by decide) (hts _ (lw_g_of (List.mem_of_getElem? (i := 435) (by decide +kernel)) rfl)) (fun _ h9 => h9) rfl hin rfl (by decide +kernel) rfl rfl (Nat.le_of_ble_eq_true rfl) (show decode prog_12_method_1_code 28 = .ok (.putfield 25, 3) by decide +kernel) (fun H locs hP hD hS => ?_)
  have hP : va_P D d_CL [(q0, .inr (10, [.ref p0, .ref p1, .ref p2, .ref p3, .ref p4, .null, .int 0]))] H := hP
  have hD : va_D A [(q0, .inr (10, [.ref p0, .ref p1, .ref p2, .ref p3, .ref p4, .null, .int 0]))] := hD
  refine lv_aload_n hx hb (show decode prog_12_method_1_code 31 = .ok (.aload_n 0, 1) by decide +kernel) rfl (lv_at hl 0 rfl) ?_
  refine lv_aload hx hb (show decode prog_12_method_1_code 32 = .ok (.aload 6, 2) by decide +kernel) (lv_at hl 6 rfl) ?_
  refine va_putF (ci := 10) (v := .ref p5) (ty := .object "FrameBench$Page") (C := R_Wr) (T := F_Wr) (N := 7) hx hb hts g_Wr t_Wr t_Wr_ok n_Wr hown hK hP hD hS 0 rfl rfl 5 (by decide) (hts _ (lw_g_of (List.mem_of_getElem? (i := 436) (by decide +kernel)) rfl)) (fun _ h9 => h9) rfl hin rfl (by decide +kernel) rfl rfl (Nat.le_of_ble_eq_true rfl) (show decode prog_12_method_1_code 34 = .ok (.putfield 29, 3) by decide +kernel) (fun H locs hP hD hS => ?_)
  have hP : va_P D d_CL [(q0, .inr (10, [.ref p0, .ref p1, .ref p2, .ref p3, .ref p4, .ref p5, .int 0]))] H := hP
  have hD : va_D A [(q0, .inr (10, [.ref p0, .ref p1, .ref p2, .ref p3, .ref p4, .ref p5, .int 0]))] := hD
  exact W.vret hx hb hr (fun t ht hW => ⟨⟨(fun k => match k with
    | _ => 0, fun k => match k with
    | _ => D.1 0), rfl, trivial, show va_P D d_CL [(q0, .inr (10, [.ref p0, .ref p1, .ref p2, .ref p3, .ref p4, .ref p5, .int 0]))] t.heap by rw [ht]; exact hP, va_K.moved hW.alike hK, hD⟩, hS.F ht⟩) hS.2.2 (show decode prog_12_method_1_code 37 = .ok (.return_, 1) by decide +kernel)
