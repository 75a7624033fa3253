/-! THE CLAIM OUT OF ONE WALK OF THE LAW'S BODY. Your part is whole_start (and what it stands on); all else here is the same for every law, but numbers. -/
def R_law : String := "FrameBenchLaw"
def lw_P (b : Addr) (xs : List Int32) (args : Array Value) (s : State) : Prop := args = #[.ref b] ∧ s.IntsAt b xs ∧ xs.length ≤ 3584 ∧ (Jvm.Cond.and given_1 narrow_1).before args s = true
def lw_Q (_ : Array Value) (s : State) (o : Outcome) (t : State) : Prop := o = .returned (some (.int 1)) ∧ Framed s o t [] 435046 7797112
def lw_Z (below : List Frame) (a : Array Value) (s : State) : State → Prop := fun t => ∃ o, t.status = .running ∧ Ended t below o ∧ lw_Q a s o t
/-- the law's own end, with 1 on the stack, nothing written that was there before, its room as the claim has it -/
theorem lw_ret {p : Program} {l : Launch} {e : Env} {s : State} {m : MethodId} {below : List Frame} {meth : Method} {c : Code} {b : Nat} (hx : p.tables.exec = Jvm.exec) (hb : c.code = code) (hr : meth.sig.returnType = ret) (hlocks : meth.locks = false) {pc : Nat} {H : Heap} {ls : Array Slot} (hdg : decode code pc = .ok (.ireturn, 1)) : W p l e room_1 s m #[Value.ref b] below meth c H [] 435046 7797112 (lw_Z below #[Value.ref b] s) (F0 m pc ls [.int 1]) := by
  intro T hT X
  obtain ⟨fs, hret, hrun, hended, hW, hframe⟩ := X.leave (v := some (.int 1)) (hlocks := hlocks) (fun h => by rw [hr] at h; cases h)
  have hmeth' : T.vm.method? m = some meth := X.method'
  refine ⟨T.setFrames fs, ?_, .returned (some (.int 1)), hrun, hended, rfl, ⟨_, rfl⟩, hW, hframe⟩
  jvm_step X.here [X.here.top, hx, hb, hdg, hmeth', hr, ret, narrow_b1]
  (try refine ⟨rfl, ?_⟩); (try refine ⟨rfl, ?_⟩)
  first | (intro acts; rw [hret _ acts rfl rfl rfl]) | rw [hret _ _ rfl rfl rfl]
  exact Steps.refl _
/-- what holds at the law's entry: the machine, the code, the tables' words (any of lw_tbl by 'hts w (by decide +kernel)'), the script of L ints xs at the cell b, what the Statement gives of the start (any of its parts by flat_of_before) -/
def lw_At (p : Program) (s : State) (m : MethodId) (meth : Method) (c : Code) (b L : Nat) (xs : Nat → Int32) : Prop :=
  p.tables.exec = Jvm.exec ∧ c.code = code ∧ meth.sig.returnType = ret ∧ c.maxLocals = 4 ∧ s.vm.findClass R_law = some m.cls ∧ (∀ w ∈ lw_tbl, w.before #[Value.ref b] s = true) ∧ va_X b L xs s s.heap ∧ b < s.heap.size ∧ meth.locks = false ∧ (Jvm.Cond.and given_1 narrow_1).before #[Value.ref b] s = true

/-- one call of the class and one of the reference answer alike, and the invariant goes on -/
def p_call (Inv : Nat → c_S → Prop) (j : Nat) (σ : c_S) (tx tm : Nat) (as : List c_V) : Prop := ∃ σ1 σ2 r, c_M 1500 tx (v_r 0 :: as) σ = some (σ1, r) ∧ c_M 1500 tm (v_r 34 :: as) σ1 = some (σ2, r) ∧ Inv (j + 1) σ2
/-- one call of the class and one of the reference return, and the invariant goes on -/
def p_run (Inv : Nat → c_S → Prop) (j : Nat) (σ : c_S) (tx tm : Nat) (as : List c_V) : Prop := ∃ σ1 σ2 r1 r2, c_M 1500 tx (v_r 0 :: as) σ = some (σ1, r1) ∧ c_M 1500 tm (v_r 34 :: as) σ1 = some (σ2, r2) ∧ Inv (j + 1) σ2
def p_OK (Inv : Nat → c_S → Prop) : Prop := Inv 0 d_S0 ∧ ∀ (j : Nat) (σ : c_S), j < 512 → Inv j σ → Inv (j + 1) σ ∧ (∀ a b c : Int64, p_call Inv j σ 0 18 [v_l a, v_l b, v_l c]) ∧ (p_run Inv j σ 1 76 []) ∧ (p_run Inv j σ 2 93 []) ∧ (p_run Inv j σ 3 94 []) ∧ (p_run Inv j σ 4 95 []) ∧ (p_run Inv j σ 5 96 []) ∧ (∀ a b : Int32, p_run Inv j σ 6 97 [v_i a, v_i b]) ∧ (p_run Inv j σ 7 98 []) ∧ (∀ a : Int32, p_run Inv j σ 8 99 [v_i a]) ∧ (∀ a : Int32, p_run Inv j σ 9 100 [v_i a]) ∧ (∀ a : Int32, p_run Inv j σ 10 101 [v_i a])
section LW
variable {p : Program} {l : Launch} {e : Env} {s : State} {m : MethodId} {below : List Frame} {meth : Method} {c : Code} {b : Nat} {a : Nat → Nat} {cA : Nat → ClassId} {D : va_G} {ls : Array Slot} {pc : Nat}
theorem law_call {idx t k w : Nat} {q : c_M0} {As : List c_V} {rest : List Value} {σ τ : c_S} {r : Int32} {sl : List Nat} {H : Heap} {locs : List Loc} {Q : State → Prop} {cells slots : Nat} (hx : p.tables.exec = Jvm.exec) (hb : c.code = code) (hml : c.maxLocals = 4) (hown : s.vm.findClass R_law = some m.cls) (hts : ∀ w ∈ lw_g, w.before #[Value.ref b] s = true) (hnw : c_NW s) (hK : va_K D d_CL (c_tys cA) s) (hin : c_inj a) (ha : ∀ k, k < 70 → s.heap.size ≤ a k)
    (hq : c_nth d_M t = some q) (hrb : q.2.2.1 = 1) (how : q.2.2.2.1 = w) (hlink : Cond.methodLink R_law idx q.2.2.2.2.1 ∈ lw_tbl) (hiv : Cond.instanceMethod q.2.2.2.2.1 ∈ lw_tbl ∧ Cond.selects q.2.2.2.2.1.cls q.2.2.2.2.1 q.2.2.2.2.1 ∈ lw_tbl) (hdesc : (parseMethodDescriptor q.2.2.2.2.1.desc).map (fun d => d.parameters.length) = some As.length) (hsl : c_nth d_CT k = some (.inl (w, sl)))
    (hcal : c_M 1500 t (.inr (.inr k) :: As) σ = some (τ, r)) (hdg : decode code pc = .ok (.invokevirtual idx, 3)) (hrest : (rest.map fun v => v.category).sum ≤ 8) (hls : ls.size = 4) (hc : cells ≤ room_1.cells ∧ slots ≤ room_1.slots)
    (hP : va_P D d_CL (c_wld a cA σ) H) (hS : va_S (fun q : Nat => s.heap.size ≤ q) s.heap H locs)
    (kk : ∀ (H' : Heap) (locs' : List Loc), va_P D d_CL (c_wld a cA τ) H' → va_S (fun q : Nat => s.heap.size ≤ q) s.heap H' locs' → W p l e room_1 s m #[Value.ref b] below meth c H' locs' cells slots Q (F0 m (pc + 3) ls (.int r :: rest))) :
    W p l e room_1 s m #[Value.ref b] below meth c H locs cells slots Q (F0 m pc ls ((As.map (dv a)).reverse ++ .ref (a k) :: rest)) := by
  obtain ⟨q', hq', hM⟩ := c_sound l a cA D hin 1500 t _ σ _ hcal
  rw [hq] at hq'
  cases hq'
  have hok := o_all q (c_nth_mem hq)
  obtain ⟨T', L', rb', ow', y', cc', mx', ret'⟩ := q
  obtain ⟨-, hcode, -, k1, hret, k2, k3, k4, k11⟩ := hok
  dsimp only at hcode k1 hret hM k2 k3 k4 k11 hrb how hlink hiv hdesc
  subst hrb how
  have hRm : (c_rm 1500).frames + 1 ≤ room_1.frames ∧ 8 + (mx' + 11) + (c_rm 1500).locals ≤ room_1.locals := by
    constructor
    · exact Nat.le_of_ble_eq_true rfl
    · show 8 + (mx' + 11) + 45 * 1500 ≤ 84000; omega
  have he : (c_wld a cA σ)[k]? = some (a k, .inr (ow', c_wf a (σ.1 k) 0 sl)) := by rw [c_wld_get, hsl]; rfl
  obtain ⟨cq, hcq, hcq2⟩ : ∃ cq, d_CL[ow']? = some cq ∧ cq.1 = y'.cls := by
    rw [k1]
    cases hc9 : c_nth d_CL ow' with
    | none =>
      rw [c_nth_eq] at hc9
      have h13 : d_CL.length = 13 := rfl
      have := List.getElem?_eq_none_iff.mp hc9
      omega
    | some cq => exact ⟨cq, by rw [← c_nth_eq]; exact hc9, by simp only [d_nm, hc9]⟩
  have hpre : PreV s H y'.cls (a k) (c_Pc a cA D H.size (.inr (.inr k) :: As) σ) (As.map (dv a)) := by
    refine ⟨c_blind, ?_, fun U hU hW => ⟨rfl, by rw [hU], by rw [hU]; exact hP, va_K.moved hW.alike hK, hnw.warm hW⟩⟩
    rw [← hcq2]
    exact va_recv hK hP hcq he
  have hA2 : ∀ q, c_A a H.size q → s.heap.size ≤ q := fun q h2 => h2.elim (fun ⟨k, hk, e⟩ => e ▸ ha k hk) (fun h3 => Nat.le_trans hS.1 h3)
  have hG : GoodIn lw_g (wsV R_law idx y'.cls y' (Cond.code y' cc' mx' ret' :: lw_g)) := by
    intro w9 hw9
    rcases List.mem_append.mp hw9 with hw9 | hw9
    · simp only [List.mem_cons, List.not_mem_nil, or_false] at hw9
      rcases hw9 with rfl | rfl | rfl | rfl
      · exact ⟨lw_g_of hlink rfl, Or.inl rfl⟩
      · exact ⟨lw_g_of hiv.1 rfl, Or.inl rfl⟩
      · exact ⟨lw_g_of hiv.2 rfl, Or.inl rfl⟩
      · exact ⟨lw_g_of k4 rfl, Or.inl rfl⟩
    · exact c_goodcons hcode _ hw9
  exact va_calli (a := #[]) (A1 := c_A a H.size) (va_runV (C := y'.cls) (As := As.map (dv a)) (Ts := lw_g) (nL := 4) ⟨hx, hb, hml, hown, hts⟩ (hM H.size) (cwV As.length hts hG rfl rfl rfl ⟨rfl, k2.1, k2.2, hdesc⟩ hRm) hpre rfl (by rw [List.length_map]) hls rfl (lv_room hrest) hdg ⟨hc.1, hc.2⟩) hS (fun q _ h => hA2 q h) hA2 (fun r9 u t H1 locs1 ht _ hr9 hB _ _ hS1 => by
    rw [hr9]
    exact kk H1 locs1 (by rw [← ht]; exact hB) hS1)
end LW
theorem lk_15 : Cond.methodLink R_law 15 ⟨R_Fb, "feed", "(JJJ)I"⟩ ∈ lw_tbl := List.mem_of_getElem? (i := 484) (by decide +kernel)
theorem lk_19 : Cond.methodLink R_law 19 ⟨R_Rm, "feed", "(JJJ)I"⟩ ∈ lw_tbl := List.mem_of_getElem? (i := 1399) (by decide +kernel)
theorem lk_20 : Cond.methodLink R_law 20 ⟨R_Fb, "declare", "()I"⟩ ∈ lw_tbl := List.mem_of_getElem? (i := 497) (by decide +kernel)
theorem lk_24 : Cond.methodLink R_law 24 ⟨R_Rm, "declare", "()I"⟩ ∈ lw_tbl := List.mem_of_getElem? (i := 1407) (by decide +kernel)
theorem lk_25 : Cond.methodLink R_law 25 ⟨R_Fb, "canon", "()I"⟩ ∈ lw_tbl := List.mem_of_getElem? (i := 974) (by decide +kernel)
theorem lk_28 : Cond.methodLink R_law 28 ⟨R_Rm, "canon", "()I"⟩ ∈ lw_tbl := List.mem_of_getElem? (i := 1639) (by decide +kernel)
theorem lk_29 : Cond.methodLink R_law 29 ⟨R_Fb, "type", "()I"⟩ ∈ lw_tbl := List.mem_of_getElem? (i := 1094) (by decide +kernel)
theorem lk_32 : Cond.methodLink R_law 32 ⟨R_Rm, "type", "()I"⟩ ∈ lw_tbl := List.mem_of_getElem? (i := 1702) (by decide +kernel)
theorem lk_33 : Cond.methodLink R_law 33 ⟨R_Fb, "equal", "()I"⟩ ∈ lw_tbl := List.mem_of_getElem? (i := 1098) (by decide +kernel)
theorem lk_36 : Cond.methodLink R_law 36 ⟨R_Rm, "equal", "()I"⟩ ∈ lw_tbl := List.mem_of_getElem? (i := 1706) (by decide +kernel)
theorem lk_37 : Cond.methodLink R_law 37 ⟨R_Fb, "named", "()I"⟩ ∈ lw_tbl := List.mem_of_getElem? (i := 1112) (by decide +kernel)
theorem lk_40 : Cond.methodLink R_law 40 ⟨R_Rm, "named", "()I"⟩ ∈ lw_tbl := List.mem_of_getElem? (i := 1710) (by decide +kernel)
theorem lk_41 : Cond.methodLink R_law 41 ⟨R_Fb, "constant", "(II)I"⟩ ∈ lw_tbl := List.mem_of_getElem? (i := 1122) (by decide +kernel)
theorem lk_45 : Cond.methodLink R_law 45 ⟨R_Rm, "constant", "(II)I"⟩ ∈ lw_tbl := List.mem_of_getElem? (i := 1714) (by decide +kernel)
theorem lk_46 : Cond.methodLink R_law 46 ⟨R_Fb, "size", "()I"⟩ ∈ lw_tbl := List.mem_of_getElem? (i := 1138) (by decide +kernel)
theorem lk_49 : Cond.methodLink R_law 49 ⟨R_Rm, "size", "()I"⟩ ∈ lw_tbl := List.mem_of_getElem? (i := 1718) (by decide +kernel)
theorem lk_50 : Cond.methodLink R_law 50 ⟨R_Fb, "out", "(I)I"⟩ ∈ lw_tbl := List.mem_of_getElem? (i := 1146) (by decide +kernel)
theorem lk_54 : Cond.methodLink R_law 54 ⟨R_Rm, "out", "(I)I"⟩ ∈ lw_tbl := List.mem_of_getElem? (i := 1722) (by decide +kernel)
theorem lk_55 : Cond.methodLink R_law 55 ⟨R_Fb, "forget", "(I)I"⟩ ∈ lw_tbl := List.mem_of_getElem? (i := 1154) (by decide +kernel)
theorem lk_58 : Cond.methodLink R_law 58 ⟨R_Rm, "forget", "(I)I"⟩ ∈ lw_tbl := List.mem_of_getElem? (i := 1726) (by decide +kernel)
theorem lk_59 : Cond.methodLink R_law 59 ⟨R_Fb, "count", "(I)I"⟩ ∈ lw_tbl := List.mem_of_getElem? (i := 1163) (by decide +kernel)
theorem lk_62 : Cond.methodLink R_law 62 ⟨R_Rm, "count", "(I)I"⟩ ∈ lw_tbl := List.mem_of_getElem? (i := 1730) (by decide +kernel)
set_option maxHeartbeats 4000000 in
theorem law_feed {p : Program} {l : Launch} {e : Env} {s : State} {m : MethodId} {below : List Frame} {meth : Method} {c : Code} {b L : Nat} {xs : Nat → Int32} {a : Nat → Nat} {cA : Nat → ClassId} {D : va_G} {ls : Array Slot} {σ : c_S} {H : Heap} {locs : List Loc} {Q : State → Prop} {j : Nat} {x3 : Int32} {Inv : Nat → c_S → Prop} (hx : p.tables.exec = Jvm.exec) (hb : c.code = code) (hml : c.maxLocals = 4) (hown : s.vm.findClass R_law = some m.cls) (hts : ∀ w ∈ lw_g, w.before #[Value.ref b] s = true) (hnw : c_NW s) (hK : va_K D d_CL (c_tys cA) s) (hin : c_inj a) (ha : ∀ k, k < 70 → s.heap.size ≤ a k) (hX : va_X b L xs s s.heap) (hbl : b < s.heap.size)
    (hi : ∀ k : Nat, k < 7 → vp_in (x3 + nI k) L) (hl : lv_has ls 4 [(3, .int x3), (2, .ref (a 34)), (1, .ref (a 0)), (0, .ref b)]) (hcall : ∀ a b c : Int64, p_call Inv j σ 0 18 [v_l a, v_l b, v_l c]) (hP : va_P D d_CL (c_wld a cA σ) H) (hS : va_S (fun q : Nat => s.heap.size ≤ q) s.heap H locs)
    (kk : ∀ (σ' : c_S) (H' : Heap) (locs' : List Loc), Inv (j + 1) σ' → va_P D d_CL (c_wld a cA σ') H' → va_S (fun q : Nat => s.heap.size ≤ q) s.heap H' locs' → W p l e room_1 s m #[Value.ref b] below meth c H' locs' 70 3712066 Q (F0 m 407 ls [])) : W p l e room_1 s m #[Value.ref b] below meth c H locs 70 3712066 Q (F0 m 92 ls []) := by
  have hbA : ¬ (fun q : Nat => s.heap.size ≤ q) b := Nat.not_le.mpr hbl
  refine lv_aload_n hx hb (show decode code 92 = .ok (.aload_n 1, 1) by decide +kernel) rfl (lv_at hl 2 rfl) ?_
  refine lv_aload_n hx hb (show decode code 93 = .ok (.aload_n 0, 1) by decide +kernel) rfl (lv_at hl 3 rfl) ?_
  refine lv_iload_n hx hb (show decode code 94 = .ok (.iload_n 3, 1) by decide +kernel) rfl (lv_at hl 0 rfl) ?_
  refine lv_iconst (v := 1) hx hb (show decode code 95 = .ok (.iconst 1, 1) by decide +kernel) (by decide) ?_
  refine lv_iadd hx hb (show decode code 96 = .ok (.iadd, 1) by decide +kernel) ?_
  refine va_sld hx hb hX hbl hbA hS (hi 1 (by decide)) (show decode code 97 = .ok (.iaload, 1) by decide +kernel) ?_
  refine lv_i2l hx hb (show decode code 98 = .ok (.i2l, 1) by decide +kernel) rfl ?_
  refine lv_bipush (v := 32) hx hb (show decode code 99 = .ok (.bipush 32, 2) by decide +kernel) (by decide) ?_
  refine lv_lshl hx hb (show decode code 101 = .ok (.lshl, 1) by decide +kernel) rfl ?_
  refine lv_aload_n hx hb (show decode code 102 = .ok (.aload_n 0, 1) by decide +kernel) rfl (lv_at hl 3 rfl) ?_
  refine lv_iload_n hx hb (show decode code 103 = .ok (.iload_n 3, 1) by decide +kernel) rfl (lv_at hl 0 rfl) ?_
  refine lv_iconst (v := 2) hx hb (show decode code 104 = .ok (.iconst 2, 1) by decide +kernel) (by decide) ?_
  refine lv_iadd hx hb (show decode code 105 = .ok (.iadd, 1) by decide +kernel) ?_
  refine va_sld hx hb hX hbl hbA hS (hi 2 (by decide)) (show decode code 106 = .ok (.iaload, 1) by decide +kernel) ?_
  refine lv_i2l hx hb (show decode code 107 = .ok (.i2l, 1) by decide +kernel) rfl ?_
  refine lv_ldc2 (v := 4294967295) hx hb hown (hts _ (lw_g_of (List.mem_of_getElem? (i := 1734) (by decide +kernel)) rfl)) (show decode code 108 = .ok (.ldc2_w 13, 3) by decide +kernel) ?_
  refine lv_land hx hb (show decode code 111 = .ok (.land, 1) by decide +kernel) ?_
  refine lv_lor hx hb (show decode code 112 = .ok (.lor, 1) by decide +kernel) ?_
  refine lv_topl (fun w1 e1 => ?_)
  refine lv_aload_n hx hb (show decode code 113 = .ok (.aload_n 0, 1) by decide +kernel) rfl (lv_at hl 3 rfl) ?_
  refine lv_iload_n hx hb (show decode code 114 = .ok (.iload_n 3, 1) by decide +kernel) rfl (lv_at hl 0 rfl) ?_
  refine lv_iconst (v := 3) hx hb (show decode code 115 = .ok (.iconst 3, 1) by decide +kernel) (by decide) ?_
  refine lv_iadd hx hb (show decode code 116 = .ok (.iadd, 1) by decide +kernel) ?_
  refine va_sld hx hb hX hbl hbA hS (hi 3 (by decide)) (show decode code 117 = .ok (.iaload, 1) by decide +kernel) ?_
  refine lv_i2l hx hb (show decode code 118 = .ok (.i2l, 1) by decide +kernel) rfl ?_
  refine lv_bipush (v := 32) hx hb (show decode code 119 = .ok (.bipush 32, 2) by decide +kernel) (by decide) ?_
  refine lv_lshl hx hb (show decode code 121 = .ok (.lshl, 1) by decide +kernel) rfl ?_
  refine lv_aload_n hx hb (show decode code 122 = .ok (.aload_n 0, 1) by decide +kernel) rfl (lv_at hl 3 rfl) ?_
  refine lv_iload_n hx hb (show decode code 123 = .ok (.iload_n 3, 1) by decide +kernel) rfl (lv_at hl 0 rfl) ?_
  refine lv_iconst (v := 4) hx hb (show decode code 124 = .ok (.iconst 4, 1) by decide +kernel) (by decide) ?_
  refine lv_iadd hx hb (show decode code 125 = .ok (.iadd, 1) by decide +kernel) ?_
  refine va_sld hx hb hX hbl hbA hS (hi 4 (by decide)) (show decode code 126 = .ok (.iaload, 1) by decide +kernel) ?_
  refine lv_i2l hx hb (show decode code 127 = .ok (.i2l, 1) by decide +kernel) rfl ?_
  refine lv_ldc2 (v := 4294967295) hx hb hown (hts _ (lw_g_of (List.mem_of_getElem? (i := 1734) (by decide +kernel)) rfl)) (show decode code 128 = .ok (.ldc2_w 13, 3) by decide +kernel) ?_
  refine lv_land hx hb (show decode code 131 = .ok (.land, 1) by decide +kernel) ?_
  refine lv_lor hx hb (show decode code 132 = .ok (.lor, 1) by decide +kernel) ?_
  refine lv_topl (fun w2 e2 => ?_)
  refine lv_aload_n hx hb (show decode code 133 = .ok (.aload_n 0, 1) by decide +kernel) rfl (lv_at hl 3 rfl) ?_
  refine lv_iload_n hx hb (show decode code 134 = .ok (.iload_n 3, 1) by decide +kernel) rfl (lv_at hl 0 rfl) ?_
  refine lv_iconst (v := 5) hx hb (show decode code 135 = .ok (.iconst 5, 1) by decide +kernel) (by decide) ?_
  refine lv_iadd hx hb (show decode code 136 = .ok (.iadd, 1) by decide +kernel) ?_
  refine va_sld hx hb hX hbl hbA hS (hi 5 (by decide)) (show decode code 137 = .ok (.iaload, 1) by decide +kernel) ?_
  refine lv_i2l hx hb (show decode code 138 = .ok (.i2l, 1) by decide +kernel) rfl ?_
  refine lv_bipush (v := 32) hx hb (show decode code 139 = .ok (.bipush 32, 2) by decide +kernel) (by decide) ?_
  refine lv_lshl hx hb (show decode code 141 = .ok (.lshl, 1) by decide +kernel) rfl ?_
  refine lv_aload_n hx hb (show decode code 142 = .ok (.aload_n 0, 1) by decide +kernel) rfl (lv_at hl 3 rfl) ?_
  refine lv_iload_n hx hb (show decode code 143 = .ok (.iload_n 3, 1) by decide +kernel) rfl (lv_at hl 0 rfl) ?_
  refine lv_bipush (v := 6) hx hb (show decode code 144 = .ok (.bipush 6, 2) by decide +kernel) (by decide) ?_
  refine lv_iadd hx hb (show decode code 146 = .ok (.iadd, 1) by decide +kernel) ?_
  refine va_sld hx hb hX hbl hbA hS (hi 6 (by decide)) (show decode code 147 = .ok (.iaload, 1) by decide +kernel) ?_
  refine lv_i2l hx hb (show decode code 148 = .ok (.i2l, 1) by decide +kernel) rfl ?_
  refine lv_ldc2 (v := 4294967295) hx hb hown (hts _ (lw_g_of (List.mem_of_getElem? (i := 1734) (by decide +kernel)) rfl)) (show decode code 149 = .ok (.ldc2_w 13, 3) by decide +kernel) ?_
  refine lv_land hx hb (show decode code 152 = .ok (.land, 1) by decide +kernel) ?_
  refine lv_lor hx hb (show decode code 153 = .ok (.lor, 1) by decide +kernel) ?_
  refine lv_topl (fun w3 e3 => ?_)
  obtain ⟨σ1, σ2, r, hc1, hc2, hinv⟩ := hcall w1 w2 w3
  refine law_call (As := [v_l w1, v_l w2, v_l w3]) (rest := []) (k := 0) (q := D_Fb_feed) hx hb hml hown hts hnw hK hin ha rfl rfl rfl lk_15 y_Fb_feed (show (parseMethodDescriptor D_Fb_feed.2.2.2.2.1.desc).map (fun d => d.parameters.length) = some 3 by decide +kernel) rfl hc1 (show decode code 154 = .ok (.invokevirtual 15, 3) by decide +kernel) (Nat.le_of_ble_eq_true rfl) hl.1 ⟨Nat.le_of_ble_eq_true rfl, Nat.le_of_ble_eq_true rfl⟩ hP hS (fun H locs hP hS => ?_)
  refine lv_aload_n hx hb (show decode code 157 = .ok (.aload_n 2, 1) by decide +kernel) rfl (lv_at hl 1 rfl) ?_
  refine lv_aload_n hx hb (show decode code 158 = .ok (.aload_n 0, 1) by decide +kernel) rfl (lv_at hl 3 rfl) ?_
  refine lv_iload_n hx hb (show decode code 159 = .ok (.iload_n 3, 1) by decide +kernel) rfl (lv_at hl 0 rfl) ?_
  refine lv_iconst (v := 1) hx hb (show decode code 160 = .ok (.iconst 1, 1) by decide +kernel) (by decide) ?_
  refine lv_iadd hx hb (show decode code 161 = .ok (.iadd, 1) by decide +kernel) ?_
  refine va_sld hx hb hX hbl hbA hS (hi 1 (by decide)) (show decode code 162 = .ok (.iaload, 1) by decide +kernel) ?_
  refine lv_i2l hx hb (show decode code 163 = .ok (.i2l, 1) by decide +kernel) rfl ?_
  refine lv_bipush (v := 32) hx hb (show decode code 164 = .ok (.bipush 32, 2) by decide +kernel) (by decide) ?_
  refine lv_lshl hx hb (show decode code 166 = .ok (.lshl, 1) by decide +kernel) rfl ?_
  refine lv_aload_n hx hb (show decode code 167 = .ok (.aload_n 0, 1) by decide +kernel) rfl (lv_at hl 3 rfl) ?_
  refine lv_iload_n hx hb (show decode code 168 = .ok (.iload_n 3, 1) by decide +kernel) rfl (lv_at hl 0 rfl) ?_
  refine lv_iconst (v := 2) hx hb (show decode code 169 = .ok (.iconst 2, 1) by decide +kernel) (by decide) ?_
  refine lv_iadd hx hb (show decode code 170 = .ok (.iadd, 1) by decide +kernel) ?_
  refine va_sld hx hb hX hbl hbA hS (hi 2 (by decide)) (show decode code 171 = .ok (.iaload, 1) by decide +kernel) ?_
  refine lv_i2l hx hb (show decode code 172 = .ok (.i2l, 1) by decide +kernel) rfl ?_
  refine lv_ldc2 (v := 4294967295) hx hb hown (hts _ (lw_g_of (List.mem_of_getElem? (i := 1734) (by decide +kernel)) rfl)) (show decode code 173 = .ok (.ldc2_w 13, 3) by decide +kernel) ?_
  refine lv_land hx hb (show decode code 176 = .ok (.land, 1) by decide +kernel) ?_
  refine lv_lor hx hb (show decode code 177 = .ok (.lor, 1) by decide +kernel) ?_
  refine lv_topl (fun w4 e4 => ?_)
  refine lv_aload_n hx hb (show decode code 178 = .ok (.aload_n 0, 1) by decide +kernel) rfl (lv_at hl 3 rfl) ?_
  refine lv_iload_n hx hb (show decode code 179 = .ok (.iload_n 3, 1) by decide +kernel) rfl (lv_at hl 0 rfl) ?_
  refine lv_iconst (v := 3) hx hb (show decode code 180 = .ok (.iconst 3, 1) by decide +kernel) (by decide) ?_
  refine lv_iadd hx hb (show decode code 181 = .ok (.iadd, 1) by decide +kernel) ?_
  refine va_sld hx hb hX hbl hbA hS (hi 3 (by decide)) (show decode code 182 = .ok (.iaload, 1) by decide +kernel) ?_
  refine lv_i2l hx hb (show decode code 183 = .ok (.i2l, 1) by decide +kernel) rfl ?_
  refine lv_bipush (v := 32) hx hb (show decode code 184 = .ok (.bipush 32, 2) by decide +kernel) (by decide) ?_
  refine lv_lshl hx hb (show decode code 186 = .ok (.lshl, 1) by decide +kernel) rfl ?_
  refine lv_aload_n hx hb (show decode code 187 = .ok (.aload_n 0, 1) by decide +kernel) rfl (lv_at hl 3 rfl) ?_
  refine lv_iload_n hx hb (show decode code 188 = .ok (.iload_n 3, 1) by decide +kernel) rfl (lv_at hl 0 rfl) ?_
  refine lv_iconst (v := 4) hx hb (show decode code 189 = .ok (.iconst 4, 1) by decide +kernel) (by decide) ?_
  refine lv_iadd hx hb (show decode code 190 = .ok (.iadd, 1) by decide +kernel) ?_
  refine va_sld hx hb hX hbl hbA hS (hi 4 (by decide)) (show decode code 191 = .ok (.iaload, 1) by decide +kernel) ?_
  refine lv_i2l hx hb (show decode code 192 = .ok (.i2l, 1) by decide +kernel) rfl ?_
  refine lv_ldc2 (v := 4294967295) hx hb hown (hts _ (lw_g_of (List.mem_of_getElem? (i := 1734) (by decide +kernel)) rfl)) (show decode code 193 = .ok (.ldc2_w 13, 3) by decide +kernel) ?_
  refine lv_land hx hb (show decode code 196 = .ok (.land, 1) by decide +kernel) ?_
  refine lv_lor hx hb (show decode code 197 = .ok (.lor, 1) by decide +kernel) ?_
  refine lv_topl (fun w5 e5 => ?_)
  refine lv_aload_n hx hb (show decode code 198 = .ok (.aload_n 0, 1) by decide +kernel) rfl (lv_at hl 3 rfl) ?_
  refine lv_iload_n hx hb (show decode code 199 = .ok (.iload_n 3, 1) by decide +kernel) rfl (lv_at hl 0 rfl) ?_
  refine lv_iconst (v := 5) hx hb (show decode code 200 = .ok (.iconst 5, 1) by decide +kernel) (by decide) ?_
  refine lv_iadd hx hb (show decode code 201 = .ok (.iadd, 1) by decide +kernel) ?_
  refine va_sld hx hb hX hbl hbA hS (hi 5 (by decide)) (show decode code 202 = .ok (.iaload, 1) by decide +kernel) ?_
  refine lv_i2l hx hb (show decode code 203 = .ok (.i2l, 1) by decide +kernel) rfl ?_
  refine lv_bipush (v := 32) hx hb (show decode code 204 = .ok (.bipush 32, 2) by decide +kernel) (by decide) ?_
  refine lv_lshl hx hb (show decode code 206 = .ok (.lshl, 1) by decide +kernel) rfl ?_
  refine lv_aload_n hx hb (show decode code 207 = .ok (.aload_n 0, 1) by decide +kernel) rfl (lv_at hl 3 rfl) ?_
  refine lv_iload_n hx hb (show decode code 208 = .ok (.iload_n 3, 1) by decide +kernel) rfl (lv_at hl 0 rfl) ?_
  refine lv_bipush (v := 6) hx hb (show decode code 209 = .ok (.bipush 6, 2) by decide +kernel) (by decide) ?_
  refine lv_iadd hx hb (show decode code 211 = .ok (.iadd, 1) by decide +kernel) ?_
  refine va_sld hx hb hX hbl hbA hS (hi 6 (by decide)) (show decode code 212 = .ok (.iaload, 1) by decide +kernel) ?_
  refine lv_i2l hx hb (show decode code 213 = .ok (.i2l, 1) by decide +kernel) rfl ?_
  refine lv_ldc2 (v := 4294967295) hx hb hown (hts _ (lw_g_of (List.mem_of_getElem? (i := 1734) (by decide +kernel)) rfl)) (show decode code 214 = .ok (.ldc2_w 13, 3) by decide +kernel) ?_
  refine lv_land hx hb (show decode code 217 = .ok (.land, 1) by decide +kernel) ?_
  refine lv_lor hx hb (show decode code 218 = .ok (.lor, 1) by decide +kernel) ?_
  refine lv_topl (fun w6 e6 => ?_)
  have e14 : w4 = w1 := by rw [e4, e1]
  have e25 : w5 = w2 := by rw [e5, e2]
  have e36 : w6 = w3 := by rw [e6, e3]
  subst e14 e25 e36
  refine law_call (As := [v_l w4, v_l w5, v_l w6]) (rest := [.int r]) (k := 34) (q := D_Rm_feed) hx hb hml hown hts hnw hK hin ha rfl rfl rfl lk_19 y_Rm_feed (show (parseMethodDescriptor D_Rm_feed.2.2.2.2.1.desc).map (fun d => d.parameters.length) = some 3 by decide +kernel) rfl hc2 (show decode code 219 = .ok (.invokevirtual 19, 3) by decide +kernel) (Nat.le_of_ble_eq_true rfl) hl.1 ⟨Nat.le_of_ble_eq_true rfl, Nat.le_of_ble_eq_true rfl⟩ hP hS (fun H locs hP hS => ?_)
  refine lv_icmp_eq (tgt := 407) hx hb (show decode code 222 = .ok (.if_icmp .eq 185, 3) by decide +kernel) (by decide) (fun _ => kk σ2 H locs hinv hP hS) (fun h9 => absurd rfl h9)
set_option maxHeartbeats 4000000 in
theorem law_declare {p : Program} {l : Launch} {e : Env} {s : State} {m : MethodId} {below : List Frame} {meth : Method} {c : Code} {b L : Nat} {xs : Nat → Int32} {a : Nat → Nat} {cA : Nat → ClassId} {D : va_G} {ls : Array Slot} {σ : c_S} {H : Heap} {locs : List Loc} {Q : State → Prop} {j : Nat} {x3 : Int32} {Inv : Nat → c_S → Prop} (hx : p.tables.exec = Jvm.exec) (hb : c.code = code) (hml : c.maxLocals = 4) (hown : s.vm.findClass R_law = some m.cls) (hts : ∀ w ∈ lw_g, w.before #[Value.ref b] s = true) (hnw : c_NW s) (hK : va_K D d_CL (c_tys cA) s) (hin : c_inj a) (ha : ∀ k, k < 70 → s.heap.size ≤ a k) (hX : va_X b L xs s s.heap) (hbl : b < s.heap.size)
    (hi : ∀ k : Nat, k < 7 → vp_in (x3 + nI k) L) (hl : lv_has ls 4 [(3, .int x3), (2, .ref (a 34)), (1, .ref (a 0)), (0, .ref b)]) (hcall : p_run Inv j σ 1 76 []) (hP : va_P D d_CL (c_wld a cA σ) H) (hS : va_S (fun q : Nat => s.heap.size ≤ q) s.heap H locs)
    (kk : ∀ (σ' : c_S) (H' : Heap) (locs' : List Loc), Inv (j + 1) σ' → va_P D d_CL (c_wld a cA σ') H' → va_S (fun q : Nat => s.heap.size ≤ q) s.heap H' locs' → W p l e room_1 s m #[Value.ref b] below meth c H' locs' 70 3712066 Q (F0 m 407 ls [])) : W p l e room_1 s m #[Value.ref b] below meth c H locs 70 3712066 Q (F0 m 227 ls []) := by
  have hbA : ¬ (fun q : Nat => s.heap.size ≤ q) b := Nat.not_le.mpr hbl
  refine lv_aload_n hx hb (show decode code 227 = .ok (.aload_n 1, 1) by decide +kernel) rfl (lv_at hl 2 rfl) ?_
  obtain ⟨σ1, σ2, r1, r2, hc1, hc2, hinv⟩ := hcall 
  refine law_call (As := []) (rest := []) (k := 0) (q := D_Fb_declare) hx hb hml hown hts hnw hK hin ha rfl rfl rfl lk_20 y_Fb_declare (show (parseMethodDescriptor D_Fb_declare.2.2.2.2.1.desc).map (fun d => d.parameters.length) = some 0 by decide +kernel) rfl hc1 (show decode code 228 = .ok (.invokevirtual 20, 3) by decide +kernel) (Nat.le_of_ble_eq_true rfl) hl.1 ⟨Nat.le_of_ble_eq_true rfl, Nat.le_of_ble_eq_true rfl⟩ hP hS (fun H locs hP hS => ?_)
  refine lv_pop hx hb (show decode code 231 = .ok (.pop, 1) by decide +kernel) rfl ?_
  refine lv_aload_n hx hb (show decode code 232 = .ok (.aload_n 2, 1) by decide +kernel) rfl (lv_at hl 1 rfl) ?_
  refine law_call (As := []) (rest := []) (k := 34) (q := D_Rm_declare) hx hb hml hown hts hnw hK hin ha rfl rfl rfl lk_24 y_Rm_declare (show (parseMethodDescriptor D_Rm_declare.2.2.2.2.1.desc).map (fun d => d.parameters.length) = some 0 by decide +kernel) rfl hc2 (show decode code 233 = .ok (.invokevirtual 24, 3) by decide +kernel) (Nat.le_of_ble_eq_true rfl) hl.1 ⟨Nat.le_of_ble_eq_true rfl, Nat.le_of_ble_eq_true rfl⟩ hP hS (fun H locs hP hS => ?_)
  refine lv_pop hx hb (show decode code 236 = .ok (.pop, 1) by decide +kernel) rfl ?_
  refine lv_goto (tgt := 407) hx hb (show decode code 237 = .ok (.goto 170, 3) by decide +kernel) (by decide) ?_
  exact kk σ2 H locs hinv hP hS
set_option maxHeartbeats 4000000 in
theorem law_canon {p : Program} {l : Launch} {e : Env} {s : State} {m : MethodId} {below : List Frame} {meth : Method} {c : Code} {b L : Nat} {xs : Nat → Int32} {a : Nat → Nat} {cA : Nat → ClassId} {D : va_G} {ls : Array Slot} {σ : c_S} {H : Heap} {locs : List Loc} {Q : State → Prop} {j : Nat} {x3 : Int32} {Inv : Nat → c_S → Prop} (hx : p.tables.exec = Jvm.exec) (hb : c.code = code) (hml : c.maxLocals = 4) (hown : s.vm.findClass R_law = some m.cls) (hts : ∀ w ∈ lw_g, w.before #[Value.ref b] s = true) (hnw : c_NW s) (hK : va_K D d_CL (c_tys cA) s) (hin : c_inj a) (ha : ∀ k, k < 70 → s.heap.size ≤ a k) (hX : va_X b L xs s s.heap) (hbl : b < s.heap.size)
    (hi : ∀ k : Nat, k < 7 → vp_in (x3 + nI k) L) (hl : lv_has ls 4 [(3, .int x3), (2, .ref (a 34)), (1, .ref (a 0)), (0, .ref b)]) (hcall : p_run Inv j σ 2 93 []) (hP : va_P D d_CL (c_wld a cA σ) H) (hS : va_S (fun q : Nat => s.heap.size ≤ q) s.heap H locs)
    (kk : ∀ (σ' : c_S) (H' : Heap) (locs' : List Loc), Inv (j + 1) σ' → va_P D d_CL (c_wld a cA σ') H' → va_S (fun q : Nat => s.heap.size ≤ q) s.heap H' locs' → W p l e room_1 s m #[Value.ref b] below meth c H' locs' 70 3712066 Q (F0 m 407 ls [])) : W p l e room_1 s m #[Value.ref b] below meth c H locs 70 3712066 Q (F0 m 240 ls []) := by
  have hbA : ¬ (fun q : Nat => s.heap.size ≤ q) b := Nat.not_le.mpr hbl
  refine lv_aload_n hx hb (show decode code 240 = .ok (.aload_n 1, 1) by decide +kernel) rfl (lv_at hl 2 rfl) ?_
  obtain ⟨σ1, σ2, r1, r2, hc1, hc2, hinv⟩ := hcall 
  refine law_call (As := []) (rest := []) (k := 0) (q := D_Fb_canon) hx hb hml hown hts hnw hK hin ha rfl rfl rfl lk_25 y_Fb_canon (show (parseMethodDescriptor D_Fb_canon.2.2.2.2.1.desc).map (fun d => d.parameters.length) = some 0 by decide +kernel) rfl hc1 (show decode code 241 = .ok (.invokevirtual 25, 3) by decide +kernel) (Nat.le_of_ble_eq_true rfl) hl.1 ⟨Nat.le_of_ble_eq_true rfl, Nat.le_of_ble_eq_true rfl⟩ hP hS (fun H locs hP hS => ?_)
  refine lv_pop hx hb (show decode code 244 = .ok (.pop, 1) by decide +kernel) rfl ?_
  refine lv_aload_n hx hb (show decode code 245 = .ok (.aload_n 2, 1) by decide +kernel) rfl (lv_at hl 1 rfl) ?_
  refine law_call (As := []) (rest := []) (k := 34) (q := D_Rm_canon) hx hb hml hown hts hnw hK hin ha rfl rfl rfl lk_28 y_Rm_canon (show (parseMethodDescriptor D_Rm_canon.2.2.2.2.1.desc).map (fun d => d.parameters.length) = some 0 by decide +kernel) rfl hc2 (show decode code 246 = .ok (.invokevirtual 28, 3) by decide +kernel) (Nat.le_of_ble_eq_true rfl) hl.1 ⟨Nat.le_of_ble_eq_true rfl, Nat.le_of_ble_eq_true rfl⟩ hP hS (fun H locs hP hS => ?_)
  refine lv_pop hx hb (show decode code 249 = .ok (.pop, 1) by decide +kernel) rfl ?_
  refine lv_goto (tgt := 407) hx hb (show decode code 250 = .ok (.goto 157, 3) by decide +kernel) (by decide) ?_
  exact kk σ2 H locs hinv hP hS
set_option maxHeartbeats 4000000 in
theorem law_type {p : Program} {l : Launch} {e : Env} {s : State} {m : MethodId} {below : List Frame} {meth : Method} {c : Code} {b L : Nat} {xs : Nat → Int32} {a : Nat → Nat} {cA : Nat → ClassId} {D : va_G} {ls : Array Slot} {σ : c_S} {H : Heap} {locs : List Loc} {Q : State → Prop} {j : Nat} {x3 : Int32} {Inv : Nat → c_S → Prop} (hx : p.tables.exec = Jvm.exec) (hb : c.code = code) (hml : c.maxLocals = 4) (hown : s.vm.findClass R_law = some m.cls) (hts : ∀ w ∈ lw_g, w.before #[Value.ref b] s = true) (hnw : c_NW s) (hK : va_K D d_CL (c_tys cA) s) (hin : c_inj a) (ha : ∀ k, k < 70 → s.heap.size ≤ a k) (hX : va_X b L xs s s.heap) (hbl : b < s.heap.size)
    (hi : ∀ k : Nat, k < 7 → vp_in (x3 + nI k) L) (hl : lv_has ls 4 [(3, .int x3), (2, .ref (a 34)), (1, .ref (a 0)), (0, .ref b)]) (hcall : p_run Inv j σ 3 94 []) (hP : va_P D d_CL (c_wld a cA σ) H) (hS : va_S (fun q : Nat => s.heap.size ≤ q) s.heap H locs)
    (kk : ∀ (σ' : c_S) (H' : Heap) (locs' : List Loc), Inv (j + 1) σ' → va_P D d_CL (c_wld a cA σ') H' → va_S (fun q : Nat => s.heap.size ≤ q) s.heap H' locs' → W p l e room_1 s m #[Value.ref b] below meth c H' locs' 70 3712066 Q (F0 m 407 ls [])) : W p l e room_1 s m #[Value.ref b] below meth c H locs 70 3712066 Q (F0 m 253 ls []) := by
  have hbA : ¬ (fun q : Nat => s.heap.size ≤ q) b := Nat.not_le.mpr hbl
  refine lv_aload_n hx hb (show decode code 253 = .ok (.aload_n 1, 1) by decide +kernel) rfl (lv_at hl 2 rfl) ?_
  obtain ⟨σ1, σ2, r1, r2, hc1, hc2, hinv⟩ := hcall 
  refine law_call (As := []) (rest := []) (k := 0) (q := D_Fb_type) hx hb hml hown hts hnw hK hin ha rfl rfl rfl lk_29 y_Fb_type (show (parseMethodDescriptor D_Fb_type.2.2.2.2.1.desc).map (fun d => d.parameters.length) = some 0 by decide +kernel) rfl hc1 (show decode code 254 = .ok (.invokevirtual 29, 3) by decide +kernel) (Nat.le_of_ble_eq_true rfl) hl.1 ⟨Nat.le_of_ble_eq_true rfl, Nat.le_of_ble_eq_true rfl⟩ hP hS (fun H locs hP hS => ?_)
  refine lv_pop hx hb (show decode code 257 = .ok (.pop, 1) by decide +kernel) rfl ?_
  refine lv_aload_n hx hb (show decode code 258 = .ok (.aload_n 2, 1) by decide +kernel) rfl (lv_at hl 1 rfl) ?_
  refine law_call (As := []) (rest := []) (k := 34) (q := D_Rm_type) hx hb hml hown hts hnw hK hin ha rfl rfl rfl lk_32 y_Rm_type (show (parseMethodDescriptor D_Rm_type.2.2.2.2.1.desc).map (fun d => d.parameters.length) = some 0 by decide +kernel) rfl hc2 (show decode code 259 = .ok (.invokevirtual 32, 3) by decide +kernel) (Nat.le_of_ble_eq_true rfl) hl.1 ⟨Nat.le_of_ble_eq_true rfl, Nat.le_of_ble_eq_true rfl⟩ hP hS (fun H locs hP hS => ?_)
  refine lv_pop hx hb (show decode code 262 = .ok (.pop, 1) by decide +kernel) rfl ?_
  refine lv_goto (tgt := 407) hx hb (show decode code 263 = .ok (.goto 144, 3) by decide +kernel) (by decide) ?_
  exact kk σ2 H locs hinv hP hS
set_option maxHeartbeats 4000000 in
theorem law_equal {p : Program} {l : Launch} {e : Env} {s : State} {m : MethodId} {below : List Frame} {meth : Method} {c : Code} {b L : Nat} {xs : Nat → Int32} {a : Nat → Nat} {cA : Nat → ClassId} {D : va_G} {ls : Array Slot} {σ : c_S} {H : Heap} {locs : List Loc} {Q : State → Prop} {j : Nat} {x3 : Int32} {Inv : Nat → c_S → Prop} (hx : p.tables.exec = Jvm.exec) (hb : c.code = code) (hml : c.maxLocals = 4) (hown : s.vm.findClass R_law = some m.cls) (hts : ∀ w ∈ lw_g, w.before #[Value.ref b] s = true) (hnw : c_NW s) (hK : va_K D d_CL (c_tys cA) s) (hin : c_inj a) (ha : ∀ k, k < 70 → s.heap.size ≤ a k) (hX : va_X b L xs s s.heap) (hbl : b < s.heap.size)
    (hi : ∀ k : Nat, k < 7 → vp_in (x3 + nI k) L) (hl : lv_has ls 4 [(3, .int x3), (2, .ref (a 34)), (1, .ref (a 0)), (0, .ref b)]) (hcall : p_run Inv j σ 4 95 []) (hP : va_P D d_CL (c_wld a cA σ) H) (hS : va_S (fun q : Nat => s.heap.size ≤ q) s.heap H locs)
    (kk : ∀ (σ' : c_S) (H' : Heap) (locs' : List Loc), Inv (j + 1) σ' → va_P D d_CL (c_wld a cA σ') H' → va_S (fun q : Nat => s.heap.size ≤ q) s.heap H' locs' → W p l e room_1 s m #[Value.ref b] below meth c H' locs' 70 3712066 Q (F0 m 407 ls [])) : W p l e room_1 s m #[Value.ref b] below meth c H locs 70 3712066 Q (F0 m 266 ls []) := by
  have hbA : ¬ (fun q : Nat => s.heap.size ≤ q) b := Nat.not_le.mpr hbl
  refine lv_aload_n hx hb (show decode code 266 = .ok (.aload_n 1, 1) by decide +kernel) rfl (lv_at hl 2 rfl) ?_
  obtain ⟨σ1, σ2, r1, r2, hc1, hc2, hinv⟩ := hcall 
  refine law_call (As := []) (rest := []) (k := 0) (q := D_Fb_equal) hx hb hml hown hts hnw hK hin ha rfl rfl rfl lk_33 y_Fb_equal (show (parseMethodDescriptor D_Fb_equal.2.2.2.2.1.desc).map (fun d => d.parameters.length) = some 0 by decide +kernel) rfl hc1 (show decode code 267 = .ok (.invokevirtual 33, 3) by decide +kernel) (Nat.le_of_ble_eq_true rfl) hl.1 ⟨Nat.le_of_ble_eq_true rfl, Nat.le_of_ble_eq_true rfl⟩ hP hS (fun H locs hP hS => ?_)
  refine lv_pop hx hb (show decode code 270 = .ok (.pop, 1) by decide +kernel) rfl ?_
  refine lv_aload_n hx hb (show decode code 271 = .ok (.aload_n 2, 1) by decide +kernel) rfl (lv_at hl 1 rfl) ?_
  refine law_call (As := []) (rest := []) (k := 34) (q := D_Rm_equal) hx hb hml hown hts hnw hK hin ha rfl rfl rfl lk_36 y_Rm_equal (show (parseMethodDescriptor D_Rm_equal.2.2.2.2.1.desc).map (fun d => d.parameters.length) = some 0 by decide +kernel) rfl hc2 (show decode code 272 = .ok (.invokevirtual 36, 3) by decide +kernel) (Nat.le_of_ble_eq_true rfl) hl.1 ⟨Nat.le_of_ble_eq_true rfl, Nat.le_of_ble_eq_true rfl⟩ hP hS (fun H locs hP hS => ?_)
  refine lv_pop hx hb (show decode code 275 = .ok (.pop, 1) by decide +kernel) rfl ?_
  refine lv_goto (tgt := 407) hx hb (show decode code 276 = .ok (.goto 131, 3) by decide +kernel) (by decide) ?_
  exact kk σ2 H locs hinv hP hS
set_option maxHeartbeats 4000000 in
theorem law_named {p : Program} {l : Launch} {e : Env} {s : State} {m : MethodId} {below : List Frame} {meth : Method} {c : Code} {b L : Nat} {xs : Nat → Int32} {a : Nat → Nat} {cA : Nat → ClassId} {D : va_G} {ls : Array Slot} {σ : c_S} {H : Heap} {locs : List Loc} {Q : State → Prop} {j : Nat} {x3 : Int32} {Inv : Nat → c_S → Prop} (hx : p.tables.exec = Jvm.exec) (hb : c.code = code) (hml : c.maxLocals = 4) (hown : s.vm.findClass R_law = some m.cls) (hts : ∀ w ∈ lw_g, w.before #[Value.ref b] s = true) (hnw : c_NW s) (hK : va_K D d_CL (c_tys cA) s) (hin : c_inj a) (ha : ∀ k, k < 70 → s.heap.size ≤ a k) (hX : va_X b L xs s s.heap) (hbl : b < s.heap.size)
    (hi : ∀ k : Nat, k < 7 → vp_in (x3 + nI k) L) (hl : lv_has ls 4 [(3, .int x3), (2, .ref (a 34)), (1, .ref (a 0)), (0, .ref b)]) (hcall : p_run Inv j σ 5 96 []) (hP : va_P D d_CL (c_wld a cA σ) H) (hS : va_S (fun q : Nat => s.heap.size ≤ q) s.heap H locs)
    (kk : ∀ (σ' : c_S) (H' : Heap) (locs' : List Loc), Inv (j + 1) σ' → va_P D d_CL (c_wld a cA σ') H' → va_S (fun q : Nat => s.heap.size ≤ q) s.heap H' locs' → W p l e room_1 s m #[Value.ref b] below meth c H' locs' 70 3712066 Q (F0 m 407 ls [])) : W p l e room_1 s m #[Value.ref b] below meth c H locs 70 3712066 Q (F0 m 279 ls []) := by
  have hbA : ¬ (fun q : Nat => s.heap.size ≤ q) b := Nat.not_le.mpr hbl
  refine lv_aload_n hx hb (show decode code 279 = .ok (.aload_n 1, 1) by decide +kernel) rfl (lv_at hl 2 rfl) ?_
  obtain ⟨σ1, σ2, r1, r2, hc1, hc2, hinv⟩ := hcall 
  refine law_call (As := []) (rest := []) (k := 0) (q := D_Fb_named) hx hb hml hown hts hnw hK hin ha rfl rfl rfl lk_37 y_Fb_named (show (parseMethodDescriptor D_Fb_named.2.2.2.2.1.desc).map (fun d => d.parameters.length) = some 0 by decide +kernel) rfl hc1 (show decode code 280 = .ok (.invokevirtual 37, 3) by decide +kernel) (Nat.le_of_ble_eq_true rfl) hl.1 ⟨Nat.le_of_ble_eq_true rfl, Nat.le_of_ble_eq_true rfl⟩ hP hS (fun H locs hP hS => ?_)
  refine lv_pop hx hb (show decode code 283 = .ok (.pop, 1) by decide +kernel) rfl ?_
  refine lv_aload_n hx hb (show decode code 284 = .ok (.aload_n 2, 1) by decide +kernel) rfl (lv_at hl 1 rfl) ?_
  refine law_call (As := []) (rest := []) (k := 34) (q := D_Rm_named) hx hb hml hown hts hnw hK hin ha rfl rfl rfl lk_40 y_Rm_named (show (parseMethodDescriptor D_Rm_named.2.2.2.2.1.desc).map (fun d => d.parameters.length) = some 0 by decide +kernel) rfl hc2 (show decode code 285 = .ok (.invokevirtual 40, 3) by decide +kernel) (Nat.le_of_ble_eq_true rfl) hl.1 ⟨Nat.le_of_ble_eq_true rfl, Nat.le_of_ble_eq_true rfl⟩ hP hS (fun H locs hP hS => ?_)
  refine lv_pop hx hb (show decode code 288 = .ok (.pop, 1) by decide +kernel) rfl ?_
  refine lv_goto (tgt := 407) hx hb (show decode code 289 = .ok (.goto 118, 3) by decide +kernel) (by decide) ?_
  exact kk σ2 H locs hinv hP hS
set_option maxHeartbeats 4000000 in
theorem law_constant {p : Program} {l : Launch} {e : Env} {s : State} {m : MethodId} {below : List Frame} {meth : Method} {c : Code} {b L : Nat} {xs : Nat → Int32} {a : Nat → Nat} {cA : Nat → ClassId} {D : va_G} {ls : Array Slot} {σ : c_S} {H : Heap} {locs : List Loc} {Q : State → Prop} {j : Nat} {x3 : Int32} {Inv : Nat → c_S → Prop} (hx : p.tables.exec = Jvm.exec) (hb : c.code = code) (hml : c.maxLocals = 4) (hown : s.vm.findClass R_law = some m.cls) (hts : ∀ w ∈ lw_g, w.before #[Value.ref b] s = true) (hnw : c_NW s) (hK : va_K D d_CL (c_tys cA) s) (hin : c_inj a) (ha : ∀ k, k < 70 → s.heap.size ≤ a k) (hX : va_X b L xs s s.heap) (hbl : b < s.heap.size)
    (hi : ∀ k : Nat, k < 7 → vp_in (x3 + nI k) L) (hl : lv_has ls 4 [(3, .int x3), (2, .ref (a 34)), (1, .ref (a 0)), (0, .ref b)]) (hcall : ∀ a b : Int32, p_run Inv j σ 6 97 [v_i a, v_i b]) (hP : va_P D d_CL (c_wld a cA σ) H) (hS : va_S (fun q : Nat => s.heap.size ≤ q) s.heap H locs)
    (kk : ∀ (σ' : c_S) (H' : Heap) (locs' : List Loc), Inv (j + 1) σ' → va_P D d_CL (c_wld a cA σ') H' → va_S (fun q : Nat => s.heap.size ≤ q) s.heap H' locs' → W p l e room_1 s m #[Value.ref b] below meth c H' locs' 70 3712066 Q (F0 m 407 ls [])) : W p l e room_1 s m #[Value.ref b] below meth c H locs 70 3712066 Q (F0 m 292 ls []) := by
  have hbA : ¬ (fun q : Nat => s.heap.size ≤ q) b := Nat.not_le.mpr hbl
  refine lv_aload_n hx hb (show decode code 292 = .ok (.aload_n 1, 1) by decide +kernel) rfl (lv_at hl 2 rfl) ?_
  refine lv_aload_n hx hb (show decode code 293 = .ok (.aload_n 0, 1) by decide +kernel) rfl (lv_at hl 3 rfl) ?_
  refine lv_iload_n hx hb (show decode code 294 = .ok (.iload_n 3, 1) by decide +kernel) rfl (lv_at hl 0 rfl) ?_
  refine lv_iconst (v := 1) hx hb (show decode code 295 = .ok (.iconst 1, 1) by decide +kernel) (by decide) ?_
  refine lv_iadd hx hb (show decode code 296 = .ok (.iadd, 1) by decide +kernel) ?_
  refine va_sld hx hb hX hbl hbA hS (hi 1 (by decide)) (show decode code 297 = .ok (.iaload, 1) by decide +kernel) ?_
  refine lv_aload_n hx hb (show decode code 298 = .ok (.aload_n 0, 1) by decide +kernel) rfl (lv_at hl 3 rfl) ?_
  refine lv_iload_n hx hb (show decode code 299 = .ok (.iload_n 3, 1) by decide +kernel) rfl (lv_at hl 0 rfl) ?_
  refine lv_iconst (v := 2) hx hb (show decode code 300 = .ok (.iconst 2, 1) by decide +kernel) (by decide) ?_
  refine lv_iadd hx hb (show decode code 301 = .ok (.iadd, 1) by decide +kernel) ?_
  refine va_sld hx hb hX hbl hbA hS (hi 2 (by decide)) (show decode code 302 = .ok (.iaload, 1) by decide +kernel) ?_
  obtain ⟨σ1, σ2, r1, r2, hc1, hc2, hinv⟩ := hcall (xs (x3 + 1).toNatClampNeg) (xs (x3 + 2).toNatClampNeg)
  refine law_call (As := [v_i (xs (x3 + 1).toNatClampNeg), v_i (xs (x3 + 2).toNatClampNeg)]) (rest := []) (k := 0) (q := D_Fb_constant) hx hb hml hown hts hnw hK hin ha rfl rfl rfl lk_41 y_Fb_constant (show (parseMethodDescriptor D_Fb_constant.2.2.2.2.1.desc).map (fun d => d.parameters.length) = some 2 by decide +kernel) rfl hc1 (show decode code 303 = .ok (.invokevirtual 41, 3) by decide +kernel) (Nat.le_of_ble_eq_true rfl) hl.1 ⟨Nat.le_of_ble_eq_true rfl, Nat.le_of_ble_eq_true rfl⟩ hP hS (fun H locs hP hS => ?_)
  refine lv_pop hx hb (show decode code 306 = .ok (.pop, 1) by decide +kernel) rfl ?_
  refine lv_aload_n hx hb (show decode code 307 = .ok (.aload_n 2, 1) by decide +kernel) rfl (lv_at hl 1 rfl) ?_
  refine lv_aload_n hx hb (show decode code 308 = .ok (.aload_n 0, 1) by decide +kernel) rfl (lv_at hl 3 rfl) ?_
  refine lv_iload_n hx hb (show decode code 309 = .ok (.iload_n 3, 1) by decide +kernel) rfl (lv_at hl 0 rfl) ?_
  refine lv_iconst (v := 1) hx hb (show decode code 310 = .ok (.iconst 1, 1) by decide +kernel) (by decide) ?_
  refine lv_iadd hx hb (show decode code 311 = .ok (.iadd, 1) by decide +kernel) ?_
  refine va_sld hx hb hX hbl hbA hS (hi 1 (by decide)) (show decode code 312 = .ok (.iaload, 1) by decide +kernel) ?_
  refine lv_aload_n hx hb (show decode code 313 = .ok (.aload_n 0, 1) by decide +kernel) rfl (lv_at hl 3 rfl) ?_
  refine lv_iload_n hx hb (show decode code 314 = .ok (.iload_n 3, 1) by decide +kernel) rfl (lv_at hl 0 rfl) ?_
  refine lv_iconst (v := 2) hx hb (show decode code 315 = .ok (.iconst 2, 1) by decide +kernel) (by decide) ?_
  refine lv_iadd hx hb (show decode code 316 = .ok (.iadd, 1) by decide +kernel) ?_
  refine va_sld hx hb hX hbl hbA hS (hi 2 (by decide)) (show decode code 317 = .ok (.iaload, 1) by decide +kernel) ?_
  refine law_call (As := [v_i (xs (x3 + 1).toNatClampNeg), v_i (xs (x3 + 2).toNatClampNeg)]) (rest := []) (k := 34) (q := D_Rm_constant) hx hb hml hown hts hnw hK hin ha rfl rfl rfl lk_45 y_Rm_constant (show (parseMethodDescriptor D_Rm_constant.2.2.2.2.1.desc).map (fun d => d.parameters.length) = some 2 by decide +kernel) rfl hc2 (show decode code 318 = .ok (.invokevirtual 45, 3) by decide +kernel) (Nat.le_of_ble_eq_true rfl) hl.1 ⟨Nat.le_of_ble_eq_true rfl, Nat.le_of_ble_eq_true rfl⟩ hP hS (fun H locs hP hS => ?_)
  refine lv_pop hx hb (show decode code 321 = .ok (.pop, 1) by decide +kernel) rfl ?_
  refine lv_goto (tgt := 407) hx hb (show decode code 322 = .ok (.goto 85, 3) by decide +kernel) (by decide) ?_
  exact kk σ2 H locs hinv hP hS
set_option maxHeartbeats 4000000 in
theorem law_size {p : Program} {l : Launch} {e : Env} {s : State} {m : MethodId} {below : List Frame} {meth : Method} {c : Code} {b L : Nat} {xs : Nat → Int32} {a : Nat → Nat} {cA : Nat → ClassId} {D : va_G} {ls : Array Slot} {σ : c_S} {H : Heap} {locs : List Loc} {Q : State → Prop} {j : Nat} {x3 : Int32} {Inv : Nat → c_S → Prop} (hx : p.tables.exec = Jvm.exec) (hb : c.code = code) (hml : c.maxLocals = 4) (hown : s.vm.findClass R_law = some m.cls) (hts : ∀ w ∈ lw_g, w.before #[Value.ref b] s = true) (hnw : c_NW s) (hK : va_K D d_CL (c_tys cA) s) (hin : c_inj a) (ha : ∀ k, k < 70 → s.heap.size ≤ a k) (hX : va_X b L xs s s.heap) (hbl : b < s.heap.size)
    (hi : ∀ k : Nat, k < 7 → vp_in (x3 + nI k) L) (hl : lv_has ls 4 [(3, .int x3), (2, .ref (a 34)), (1, .ref (a 0)), (0, .ref b)]) (hcall : p_run Inv j σ 7 98 []) (hP : va_P D d_CL (c_wld a cA σ) H) (hS : va_S (fun q : Nat => s.heap.size ≤ q) s.heap H locs)
    (kk : ∀ (σ' : c_S) (H' : Heap) (locs' : List Loc), Inv (j + 1) σ' → va_P D d_CL (c_wld a cA σ') H' → va_S (fun q : Nat => s.heap.size ≤ q) s.heap H' locs' → W p l e room_1 s m #[Value.ref b] below meth c H' locs' 70 3712066 Q (F0 m 407 ls [])) : W p l e room_1 s m #[Value.ref b] below meth c H locs 70 3712066 Q (F0 m 325 ls []) := by
  have hbA : ¬ (fun q : Nat => s.heap.size ≤ q) b := Nat.not_le.mpr hbl
  refine lv_aload_n hx hb (show decode code 325 = .ok (.aload_n 1, 1) by decide +kernel) rfl (lv_at hl 2 rfl) ?_
  obtain ⟨σ1, σ2, r1, r2, hc1, hc2, hinv⟩ := hcall 
  refine law_call (As := []) (rest := []) (k := 0) (q := D_Fb_size) hx hb hml hown hts hnw hK hin ha rfl rfl rfl lk_46 y_Fb_size (show (parseMethodDescriptor D_Fb_size.2.2.2.2.1.desc).map (fun d => d.parameters.length) = some 0 by decide +kernel) rfl hc1 (show decode code 326 = .ok (.invokevirtual 46, 3) by decide +kernel) (Nat.le_of_ble_eq_true rfl) hl.1 ⟨Nat.le_of_ble_eq_true rfl, Nat.le_of_ble_eq_true rfl⟩ hP hS (fun H locs hP hS => ?_)
  refine lv_pop hx hb (show decode code 329 = .ok (.pop, 1) by decide +kernel) rfl ?_
  refine lv_aload_n hx hb (show decode code 330 = .ok (.aload_n 2, 1) by decide +kernel) rfl (lv_at hl 1 rfl) ?_
  refine law_call (As := []) (rest := []) (k := 34) (q := D_Rm_size) hx hb hml hown hts hnw hK hin ha rfl rfl rfl lk_49 y_Rm_size (show (parseMethodDescriptor D_Rm_size.2.2.2.2.1.desc).map (fun d => d.parameters.length) = some 0 by decide +kernel) rfl hc2 (show decode code 331 = .ok (.invokevirtual 49, 3) by decide +kernel) (Nat.le_of_ble_eq_true rfl) hl.1 ⟨Nat.le_of_ble_eq_true rfl, Nat.le_of_ble_eq_true rfl⟩ hP hS (fun H locs hP hS => ?_)
  refine lv_pop hx hb (show decode code 334 = .ok (.pop, 1) by decide +kernel) rfl ?_
  refine lv_goto (tgt := 407) hx hb (show decode code 335 = .ok (.goto 72, 3) by decide +kernel) (by decide) ?_
  exact kk σ2 H locs hinv hP hS
set_option maxHeartbeats 4000000 in
theorem law_out {p : Program} {l : Launch} {e : Env} {s : State} {m : MethodId} {below : List Frame} {meth : Method} {c : Code} {b L : Nat} {xs : Nat → Int32} {a : Nat → Nat} {cA : Nat → ClassId} {D : va_G} {ls : Array Slot} {σ : c_S} {H : Heap} {locs : List Loc} {Q : State → Prop} {j : Nat} {x3 : Int32} {Inv : Nat → c_S → Prop} (hx : p.tables.exec = Jvm.exec) (hb : c.code = code) (hml : c.maxLocals = 4) (hown : s.vm.findClass R_law = some m.cls) (hts : ∀ w ∈ lw_g, w.before #[Value.ref b] s = true) (hnw : c_NW s) (hK : va_K D d_CL (c_tys cA) s) (hin : c_inj a) (ha : ∀ k, k < 70 → s.heap.size ≤ a k) (hX : va_X b L xs s s.heap) (hbl : b < s.heap.size)
    (hi : ∀ k : Nat, k < 7 → vp_in (x3 + nI k) L) (hl : lv_has ls 4 [(3, .int x3), (2, .ref (a 34)), (1, .ref (a 0)), (0, .ref b)]) (hcall : ∀ a : Int32, p_run Inv j σ 8 99 [v_i a]) (hP : va_P D d_CL (c_wld a cA σ) H) (hS : va_S (fun q : Nat => s.heap.size ≤ q) s.heap H locs)
    (kk : ∀ (σ' : c_S) (H' : Heap) (locs' : List Loc), Inv (j + 1) σ' → va_P D d_CL (c_wld a cA σ') H' → va_S (fun q : Nat => s.heap.size ≤ q) s.heap H' locs' → W p l e room_1 s m #[Value.ref b] below meth c H' locs' 70 3712066 Q (F0 m 407 ls [])) : W p l e room_1 s m #[Value.ref b] below meth c H locs 70 3712066 Q (F0 m 338 ls []) := by
  have hbA : ¬ (fun q : Nat => s.heap.size ≤ q) b := Nat.not_le.mpr hbl
  refine lv_aload_n hx hb (show decode code 338 = .ok (.aload_n 1, 1) by decide +kernel) rfl (lv_at hl 2 rfl) ?_
  refine lv_aload_n hx hb (show decode code 339 = .ok (.aload_n 0, 1) by decide +kernel) rfl (lv_at hl 3 rfl) ?_
  refine lv_iload_n hx hb (show decode code 340 = .ok (.iload_n 3, 1) by decide +kernel) rfl (lv_at hl 0 rfl) ?_
  refine lv_iconst (v := 1) hx hb (show decode code 341 = .ok (.iconst 1, 1) by decide +kernel) (by decide) ?_
  refine lv_iadd hx hb (show decode code 342 = .ok (.iadd, 1) by decide +kernel) ?_
  refine va_sld hx hb hX hbl hbA hS (hi 1 (by decide)) (show decode code 343 = .ok (.iaload, 1) by decide +kernel) ?_
  obtain ⟨σ1, σ2, r1, r2, hc1, hc2, hinv⟩ := hcall (xs (x3 + 1).toNatClampNeg)
  refine law_call (As := [v_i (xs (x3 + 1).toNatClampNeg)]) (rest := []) (k := 0) (q := D_Fb_out) hx hb hml hown hts hnw hK hin ha rfl rfl rfl lk_50 y_Fb_out (show (parseMethodDescriptor D_Fb_out.2.2.2.2.1.desc).map (fun d => d.parameters.length) = some 1 by decide +kernel) rfl hc1 (show decode code 344 = .ok (.invokevirtual 50, 3) by decide +kernel) (Nat.le_of_ble_eq_true rfl) hl.1 ⟨Nat.le_of_ble_eq_true rfl, Nat.le_of_ble_eq_true rfl⟩ hP hS (fun H locs hP hS => ?_)
  refine lv_pop hx hb (show decode code 347 = .ok (.pop, 1) by decide +kernel) rfl ?_
  refine lv_aload_n hx hb (show decode code 348 = .ok (.aload_n 2, 1) by decide +kernel) rfl (lv_at hl 1 rfl) ?_
  refine lv_aload_n hx hb (show decode code 349 = .ok (.aload_n 0, 1) by decide +kernel) rfl (lv_at hl 3 rfl) ?_
  refine lv_iload_n hx hb (show decode code 350 = .ok (.iload_n 3, 1) by decide +kernel) rfl (lv_at hl 0 rfl) ?_
  refine lv_iconst (v := 1) hx hb (show decode code 351 = .ok (.iconst 1, 1) by decide +kernel) (by decide) ?_
  refine lv_iadd hx hb (show decode code 352 = .ok (.iadd, 1) by decide +kernel) ?_
  refine va_sld hx hb hX hbl hbA hS (hi 1 (by decide)) (show decode code 353 = .ok (.iaload, 1) by decide +kernel) ?_
  refine law_call (As := [v_i (xs (x3 + 1).toNatClampNeg)]) (rest := []) (k := 34) (q := D_Rm_out) hx hb hml hown hts hnw hK hin ha rfl rfl rfl lk_54 y_Rm_out (show (parseMethodDescriptor D_Rm_out.2.2.2.2.1.desc).map (fun d => d.parameters.length) = some 1 by decide +kernel) rfl hc2 (show decode code 354 = .ok (.invokevirtual 54, 3) by decide +kernel) (Nat.le_of_ble_eq_true rfl) hl.1 ⟨Nat.le_of_ble_eq_true rfl, Nat.le_of_ble_eq_true rfl⟩ hP hS (fun H locs hP hS => ?_)
  refine lv_pop hx hb (show decode code 357 = .ok (.pop, 1) by decide +kernel) rfl ?_
  refine lv_goto (tgt := 407) hx hb (show decode code 358 = .ok (.goto 49, 3) by decide +kernel) (by decide) ?_
  exact kk σ2 H locs hinv hP hS
set_option maxHeartbeats 4000000 in
theorem law_forget {p : Program} {l : Launch} {e : Env} {s : State} {m : MethodId} {below : List Frame} {meth : Method} {c : Code} {b L : Nat} {xs : Nat → Int32} {a : Nat → Nat} {cA : Nat → ClassId} {D : va_G} {ls : Array Slot} {σ : c_S} {H : Heap} {locs : List Loc} {Q : State → Prop} {j : Nat} {x3 : Int32} {Inv : Nat → c_S → Prop} (hx : p.tables.exec = Jvm.exec) (hb : c.code = code) (hml : c.maxLocals = 4) (hown : s.vm.findClass R_law = some m.cls) (hts : ∀ w ∈ lw_g, w.before #[Value.ref b] s = true) (hnw : c_NW s) (hK : va_K D d_CL (c_tys cA) s) (hin : c_inj a) (ha : ∀ k, k < 70 → s.heap.size ≤ a k) (hX : va_X b L xs s s.heap) (hbl : b < s.heap.size)
    (hi : ∀ k : Nat, k < 7 → vp_in (x3 + nI k) L) (hl : lv_has ls 4 [(3, .int x3), (2, .ref (a 34)), (1, .ref (a 0)), (0, .ref b)]) (hcall : ∀ a : Int32, p_run Inv j σ 9 100 [v_i a]) (hP : va_P D d_CL (c_wld a cA σ) H) (hS : va_S (fun q : Nat => s.heap.size ≤ q) s.heap H locs)
    (kk : ∀ (σ' : c_S) (H' : Heap) (locs' : List Loc), Inv (j + 1) σ' → va_P D d_CL (c_wld a cA σ') H' → va_S (fun q : Nat => s.heap.size ≤ q) s.heap H' locs' → W p l e room_1 s m #[Value.ref b] below meth c H' locs' 70 3712066 Q (F0 m 407 ls [])) : W p l e room_1 s m #[Value.ref b] below meth c H locs 70 3712066 Q (F0 m 361 ls []) := by
  have hbA : ¬ (fun q : Nat => s.heap.size ≤ q) b := Nat.not_le.mpr hbl
  refine lv_aload_n hx hb (show decode code 361 = .ok (.aload_n 1, 1) by decide +kernel) rfl (lv_at hl 2 rfl) ?_
  refine lv_aload_n hx hb (show decode code 362 = .ok (.aload_n 0, 1) by decide +kernel) rfl (lv_at hl 3 rfl) ?_
  refine lv_iload_n hx hb (show decode code 363 = .ok (.iload_n 3, 1) by decide +kernel) rfl (lv_at hl 0 rfl) ?_
  refine lv_iconst (v := 1) hx hb (show decode code 364 = .ok (.iconst 1, 1) by decide +kernel) (by decide) ?_
  refine lv_iadd hx hb (show decode code 365 = .ok (.iadd, 1) by decide +kernel) ?_
  refine va_sld hx hb hX hbl hbA hS (hi 1 (by decide)) (show decode code 366 = .ok (.iaload, 1) by decide +kernel) ?_
  obtain ⟨σ1, σ2, r1, r2, hc1, hc2, hinv⟩ := hcall (xs (x3 + 1).toNatClampNeg)
  refine law_call (As := [v_i (xs (x3 + 1).toNatClampNeg)]) (rest := []) (k := 0) (q := D_Fb_forget) hx hb hml hown hts hnw hK hin ha rfl rfl rfl lk_55 y_Fb_forget (show (parseMethodDescriptor D_Fb_forget.2.2.2.2.1.desc).map (fun d => d.parameters.length) = some 1 by decide +kernel) rfl hc1 (show decode code 367 = .ok (.invokevirtual 55, 3) by decide +kernel) (Nat.le_of_ble_eq_true rfl) hl.1 ⟨Nat.le_of_ble_eq_true rfl, Nat.le_of_ble_eq_true rfl⟩ hP hS (fun H locs hP hS => ?_)
  refine lv_pop hx hb (show decode code 370 = .ok (.pop, 1) by decide +kernel) rfl ?_
  refine lv_aload_n hx hb (show decode code 371 = .ok (.aload_n 2, 1) by decide +kernel) rfl (lv_at hl 1 rfl) ?_
  refine lv_aload_n hx hb (show decode code 372 = .ok (.aload_n 0, 1) by decide +kernel) rfl (lv_at hl 3 rfl) ?_
  refine lv_iload_n hx hb (show decode code 373 = .ok (.iload_n 3, 1) by decide +kernel) rfl (lv_at hl 0 rfl) ?_
  refine lv_iconst (v := 1) hx hb (show decode code 374 = .ok (.iconst 1, 1) by decide +kernel) (by decide) ?_
  refine lv_iadd hx hb (show decode code 375 = .ok (.iadd, 1) by decide +kernel) ?_
  refine va_sld hx hb hX hbl hbA hS (hi 1 (by decide)) (show decode code 376 = .ok (.iaload, 1) by decide +kernel) ?_
  refine law_call (As := [v_i (xs (x3 + 1).toNatClampNeg)]) (rest := []) (k := 34) (q := D_Rm_forget) hx hb hml hown hts hnw hK hin ha rfl rfl rfl lk_58 y_Rm_forget (show (parseMethodDescriptor D_Rm_forget.2.2.2.2.1.desc).map (fun d => d.parameters.length) = some 1 by decide +kernel) rfl hc2 (show decode code 377 = .ok (.invokevirtual 58, 3) by decide +kernel) (Nat.le_of_ble_eq_true rfl) hl.1 ⟨Nat.le_of_ble_eq_true rfl, Nat.le_of_ble_eq_true rfl⟩ hP hS (fun H locs hP hS => ?_)
  refine lv_pop hx hb (show decode code 380 = .ok (.pop, 1) by decide +kernel) rfl ?_
  refine lv_goto (tgt := 407) hx hb (show decode code 381 = .ok (.goto 26, 3) by decide +kernel) (by decide) ?_
  exact kk σ2 H locs hinv hP hS
set_option maxHeartbeats 4000000 in
theorem law_count {p : Program} {l : Launch} {e : Env} {s : State} {m : MethodId} {below : List Frame} {meth : Method} {c : Code} {b L : Nat} {xs : Nat → Int32} {a : Nat → Nat} {cA : Nat → ClassId} {D : va_G} {ls : Array Slot} {σ : c_S} {H : Heap} {locs : List Loc} {Q : State → Prop} {j : Nat} {x3 : Int32} {Inv : Nat → c_S → Prop} (hx : p.tables.exec = Jvm.exec) (hb : c.code = code) (hml : c.maxLocals = 4) (hown : s.vm.findClass R_law = some m.cls) (hts : ∀ w ∈ lw_g, w.before #[Value.ref b] s = true) (hnw : c_NW s) (hK : va_K D d_CL (c_tys cA) s) (hin : c_inj a) (ha : ∀ k, k < 70 → s.heap.size ≤ a k) (hX : va_X b L xs s s.heap) (hbl : b < s.heap.size)
    (hi : ∀ k : Nat, k < 7 → vp_in (x3 + nI k) L) (hl : lv_has ls 4 [(3, .int x3), (2, .ref (a 34)), (1, .ref (a 0)), (0, .ref b)]) (hcall : ∀ a : Int32, p_run Inv j σ 10 101 [v_i a]) (hP : va_P D d_CL (c_wld a cA σ) H) (hS : va_S (fun q : Nat => s.heap.size ≤ q) s.heap H locs)
    (kk : ∀ (σ' : c_S) (H' : Heap) (locs' : List Loc), Inv (j + 1) σ' → va_P D d_CL (c_wld a cA σ') H' → va_S (fun q : Nat => s.heap.size ≤ q) s.heap H' locs' → W p l e room_1 s m #[Value.ref b] below meth c H' locs' 70 3712066 Q (F0 m 407 ls [])) : W p l e room_1 s m #[Value.ref b] below meth c H locs 70 3712066 Q (F0 m 384 ls []) := by
  have hbA : ¬ (fun q : Nat => s.heap.size ≤ q) b := Nat.not_le.mpr hbl
  refine lv_aload_n hx hb (show decode code 384 = .ok (.aload_n 1, 1) by decide +kernel) rfl (lv_at hl 2 rfl) ?_
  refine lv_aload_n hx hb (show decode code 385 = .ok (.aload_n 0, 1) by decide +kernel) rfl (lv_at hl 3 rfl) ?_
  refine lv_iload_n hx hb (show decode code 386 = .ok (.iload_n 3, 1) by decide +kernel) rfl (lv_at hl 0 rfl) ?_
  refine lv_iconst (v := 1) hx hb (show decode code 387 = .ok (.iconst 1, 1) by decide +kernel) (by decide) ?_
  refine lv_iadd hx hb (show decode code 388 = .ok (.iadd, 1) by decide +kernel) ?_
  refine va_sld hx hb hX hbl hbA hS (hi 1 (by decide)) (show decode code 389 = .ok (.iaload, 1) by decide +kernel) ?_
  obtain ⟨σ1, σ2, r1, r2, hc1, hc2, hinv⟩ := hcall (xs (x3 + 1).toNatClampNeg)
  refine law_call (As := [v_i (xs (x3 + 1).toNatClampNeg)]) (rest := []) (k := 0) (q := D_Fb_count) hx hb hml hown hts hnw hK hin ha rfl rfl rfl lk_59 y_Fb_count (show (parseMethodDescriptor D_Fb_count.2.2.2.2.1.desc).map (fun d => d.parameters.length) = some 1 by decide +kernel) rfl hc1 (show decode code 390 = .ok (.invokevirtual 59, 3) by decide +kernel) (Nat.le_of_ble_eq_true rfl) hl.1 ⟨Nat.le_of_ble_eq_true rfl, Nat.le_of_ble_eq_true rfl⟩ hP hS (fun H locs hP hS => ?_)
  refine lv_pop hx hb (show decode code 393 = .ok (.pop, 1) by decide +kernel) rfl ?_
  refine lv_aload_n hx hb (show decode code 394 = .ok (.aload_n 2, 1) by decide +kernel) rfl (lv_at hl 1 rfl) ?_
  refine lv_aload_n hx hb (show decode code 395 = .ok (.aload_n 0, 1) by decide +kernel) rfl (lv_at hl 3 rfl) ?_
  refine lv_iload_n hx hb (show decode code 396 = .ok (.iload_n 3, 1) by decide +kernel) rfl (lv_at hl 0 rfl) ?_
  refine lv_iconst (v := 1) hx hb (show decode code 397 = .ok (.iconst 1, 1) by decide +kernel) (by decide) ?_
  refine lv_iadd hx hb (show decode code 398 = .ok (.iadd, 1) by decide +kernel) ?_
  refine va_sld hx hb hX hbl hbA hS (hi 1 (by decide)) (show decode code 399 = .ok (.iaload, 1) by decide +kernel) ?_
  refine law_call (As := [v_i (xs (x3 + 1).toNatClampNeg)]) (rest := []) (k := 34) (q := D_Rm_count) hx hb hml hown hts hnw hK hin ha rfl rfl rfl lk_62 y_Rm_count (show (parseMethodDescriptor D_Rm_count.2.2.2.2.1.desc).map (fun d => d.parameters.length) = some 1 by decide +kernel) rfl hc2 (show decode code 400 = .ok (.invokevirtual 62, 3) by decide +kernel) (Nat.le_of_ble_eq_true rfl) hl.1 ⟨Nat.le_of_ble_eq_true rfl, Nat.le_of_ble_eq_true rfl⟩ hP hS (fun H locs hP hS => ?_)
  refine lv_pop hx hb (show decode code 403 = .ok (.pop, 1) by decide +kernel) rfl ?_
  refine lv_goto (tgt := 407) hx hb (show decode code 404 = .ok (.goto 3, 3) by decide +kernel) (by decide) ?_
  exact kk σ2 H locs hinv hP hS
theorem nI_gt7 {i L : Nat} (hi : i < 2 ^ 30) (hL : L < 2 ^ 30) : (Int32.ofNat L - 7 < nI i) ↔ L < i + 7 := by
  rw [Int32.lt_iff_toInt_lt]
  have h1 : (Int32.ofNat L - 7).toInt = (L : Int) - 7 := by
    have h7 : (7 : Int32).toInt = 7 := by decide
    have hLi : (Int32.ofNat L).toInt = (L : Int) := nI_toInt (show L < 2 ^ 31 by omega)
    rw [Int32.toInt_sub, h7, hLi, Int.bmod_def]
    omega
  rw [h1, nI_toInt (show i < 2 ^ 31 by omega)]
  omega
set_option maxHeartbeats 4000000 in
theorem law_loop {p : Program} {l : Launch} {e : Env} {s : State} {m : MethodId} {below : List Frame} {meth : Method} {c : Code} {b L : Nat} {xs : Nat → Int32} {a : Nat → Nat} {cA : Nat → ClassId} {D : va_G} {Inv : Nat → c_S → Prop} (hx : p.tables.exec = Jvm.exec) (hb : c.code = code) (hml : c.maxLocals = 4) (hown : s.vm.findClass R_law = some m.cls) (hts : ∀ w ∈ lw_g, w.before #[Value.ref b] s = true) (hnw : c_NW s) (hK : va_K D d_CL (c_tys cA) s) (hin : c_inj a) (ha : ∀ k, k < 70 → s.heap.size ≤ a k) (hX : va_X b L xs s s.heap) (hbl : b < s.heap.size)
    (hr : meth.sig.returnType = ret) (hlocks : meth.locks = false) (hOK : p_OK Inv) (hL : L ≤ 3584) : ∀ (n i j : Nat) (x3 : Int32) (σ : c_S) (H : Heap) (locs : List Loc) (ls : Array Slot), L + 7 < n + i → i = 7 * j → x3 = nI i → i ≤ L + 7 → Inv j σ → lv_has ls 4 [(3, .int x3), (2, .ref (a 34)), (1, .ref (a 0)), (0, .ref b)] → va_P D d_CL (c_wld a cA σ) H → va_S (fun q : Nat => s.heap.size ≤ q) s.heap H locs →
      W p l e room_1 s m #[Value.ref b] below meth c H locs 70 3712066 (lw_Z below #[Value.ref b] s) (F0 m 18 ls [])
  | 0, i, j, x3, σ, H, locs, ls, h, _, _, h4, _, _, _, _ => absurd h (by omega)
  | n + 1, i, j, x3, σ, H, locs, ls, h, hij, ex3, h4, hinv, hl, hP, hS => by
    have hbA : ¬ (fun q : Nat => s.heap.size ≤ q) b := Nat.not_le.mpr hbl
    refine lv_iload_n hx hb (show decode code 18 = .ok (.iload_n 3, 1) by decide +kernel) rfl (lv_at hl 0 rfl) ?_
    refine lv_aload_n hx hb (show decode code 19 = .ok (.aload_n 0, 1) by decide +kernel) rfl (lv_at hl 3 rfl) ?_
    refine va_slen hx hb hX hbl hbA hS (show decode code 20 = .ok (.arraylength, 1) by decide +kernel) ?_
    refine lv_bipush (v := 7) hx hb (show decode code 21 = .ok (.bipush 7, 2) by decide +kernel) (by decide) ?_
    refine lv_isub hx hb (show decode code 23 = .ok (.isub, 1) by decide +kernel) ?_
    refine lv_icmp_gt (tgt := 413) hx hb (show decode code 24 = .ok (.if_icmp .gt 389, 3) by decide +kernel) (by decide) (fun hgt => ?_) (fun hgt => ?_)
    · refine lv_iconst (v := 1) hx hb (show decode code 413 = .ok (.iconst 1, 1) by decide +kernel) (by decide) ?_
      refine va_forget hS.2.2 ?_
      refine W.widen (k := 435046) (n := 7797112) (Nat.le_of_ble_eq_true rfl) (Nat.le_of_ble_eq_true rfl) ?_
      exact lw_ret hx hb hr hlocks (show decode code 414 = .ok (.ireturn, 1) by decide +kernel)
    · rw [ex3, nI_gt7 (by omega) (by omega)] at hgt
      have hj : j < 512 := by omega
      obtain ⟨o0, o1, o2, o3, o4, o5, o6, o7, o8, o9, o10, o11⟩ := hOK.2 j σ hj hinv
      have hi : ∀ k : Nat, k < 7 → vp_in (x3 + nI k) L := fun k hk => by
        rw [ex3, nI_add]; exact vp_in_nI (by omega) (by omega)
      have next : ∀ (σ' : c_S) (H' : Heap) (locs' : List Loc), Inv (j + 1) σ' → va_P D d_CL (c_wld a cA σ') H' → va_S (fun q : Nat => s.heap.size ≤ q) s.heap H' locs' → W p l e room_1 s m #[Value.ref b] below meth c H' locs' 70 3712066 (lw_Z below #[Value.ref b] s) (F0 m 407 ls []) := by
        intro σ' H' locs' hinv' hP' hS'
        obtain ⟨x3', ex3'⟩ : ∃ y : Int32, y = x3 + 7 := ⟨_, rfl⟩
        refine lv_iinc (v := x3') (lv' := [(3, .int x3'), (2, .ref (a 34)), (1, .ref (a 0)), (0, .ref b)]) hx hb (show decode code 407 = .ok (.iinc 3 7, 3) by decide +kernel) hl (k := 0) rfl (by rw [ex3']; rfl) (by decide) rfl (fun ls hl => ?_)
        refine lv_goto (tgt := 18) hx hb (show decode code 410 = .ok (.goto (-392), 3) by decide +kernel) (by decide) ?_
        exact law_loop hx hb hml hown hts hnw hK hin ha hX hbl hr hlocks hOK hL n (i + 7) (j + 1) x3' σ' H' locs' ls (by omega) (by omega) (by rw [ex3', ex3]; exact nI_add i 7) (by omega) hinv' hl hP' hS'
      refine lv_aload_n hx hb (show decode code 27 = .ok (.aload_n 0, 1) by decide +kernel) rfl (lv_at hl 3 rfl) ?_
      refine lv_iload_n hx hb (show decode code 28 = .ok (.iload_n 3, 1) by decide +kernel) rfl (lv_at hl 0 rfl) ?_
      refine va_sld hx hb hX hbl hbA hS (by have h0 := hi 0 (by omega); rw [nI_0, Int32.add_zero] at h0; exact h0) (show decode code 29 = .ok (.iaload, 1) by decide +kernel) ?_
      refine lv_bipush (v := 15) hx hb (show decode code 30 = .ok (.bipush 15, 2) by decide +kernel) (by decide) ?_
      refine lv_iand hx hb (show decode code 32 = .ok (.iand, 1) by decide +kernel) ?_
      refine lv_topi (fun v _ => ?_)
      by_cases hv0 : v = 0
      · subst hv0
        refine lv_tableIn (off := 59) (tgt := 92) hx hb (show decode code 33 = .ok (.tableswitch 374 0 10 #[59, 194, 207, 220, 233, 246, 259, 292, 305, 328, 351], 59) by decide +kernel) (by decide) (by decide) (by decide) (by decide) ?_
        exact law_feed hx hb hml hown hts hnw hK hin ha hX hbl hi hl o1 hP hS next
      by_cases hv1 : v = 1
      · subst hv1
        refine lv_tableIn (off := 194) (tgt := 227) hx hb (show decode code 33 = .ok (.tableswitch 374 0 10 #[59, 194, 207, 220, 233, 246, 259, 292, 305, 328, 351], 59) by decide +kernel) (by decide) (by decide) (by decide) (by decide) ?_
        exact law_declare hx hb hml hown hts hnw hK hin ha hX hbl hi hl o2 hP hS next
      by_cases hv2 : v = 2
      · subst hv2
        refine lv_tableIn (off := 207) (tgt := 240) hx hb (show decode code 33 = .ok (.tableswitch 374 0 10 #[59, 194, 207, 220, 233, 246, 259, 292, 305, 328, 351], 59) by decide +kernel) (by decide) (by decide) (by decide) (by decide) ?_
        exact law_canon hx hb hml hown hts hnw hK hin ha hX hbl hi hl o3 hP hS next
      by_cases hv3 : v = 3
      · subst hv3
        refine lv_tableIn (off := 220) (tgt := 253) hx hb (show decode code 33 = .ok (.tableswitch 374 0 10 #[59, 194, 207, 220, 233, 246, 259, 292, 305, 328, 351], 59) by decide +kernel) (by decide) (by decide) (by decide) (by decide) ?_
        exact law_type hx hb hml hown hts hnw hK hin ha hX hbl hi hl o4 hP hS next
      by_cases hv4 : v = 4
      · subst hv4
        refine lv_tableIn (off := 233) (tgt := 266) hx hb (show decode code 33 = .ok (.tableswitch 374 0 10 #[59, 194, 207, 220, 233, 246, 259, 292, 305, 328, 351], 59) by decide +kernel) (by decide) (by decide) (by decide) (by decide) ?_
        exact law_equal hx hb hml hown hts hnw hK hin ha hX hbl hi hl o5 hP hS next
      by_cases hv5 : v = 5
      · subst hv5
        refine lv_tableIn (off := 246) (tgt := 279) hx hb (show decode code 33 = .ok (.tableswitch 374 0 10 #[59, 194, 207, 220, 233, 246, 259, 292, 305, 328, 351], 59) by decide +kernel) (by decide) (by decide) (by decide) (by decide) ?_
        exact law_named hx hb hml hown hts hnw hK hin ha hX hbl hi hl o6 hP hS next
      by_cases hv6 : v = 6
      · subst hv6
        refine lv_tableIn (off := 259) (tgt := 292) hx hb (show decode code 33 = .ok (.tableswitch 374 0 10 #[59, 194, 207, 220, 233, 246, 259, 292, 305, 328, 351], 59) by decide +kernel) (by decide) (by decide) (by decide) (by decide) ?_
        exact law_constant hx hb hml hown hts hnw hK hin ha hX hbl hi hl o7 hP hS next
      by_cases hv7 : v = 7
      · subst hv7
        refine lv_tableIn (off := 292) (tgt := 325) hx hb (show decode code 33 = .ok (.tableswitch 374 0 10 #[59, 194, 207, 220, 233, 246, 259, 292, 305, 328, 351], 59) by decide +kernel) (by decide) (by decide) (by decide) (by decide) ?_
        exact law_size hx hb hml hown hts hnw hK hin ha hX hbl hi hl o8 hP hS next
      by_cases hv8 : v = 8
      · subst hv8
        refine lv_tableIn (off := 305) (tgt := 338) hx hb (show decode code 33 = .ok (.tableswitch 374 0 10 #[59, 194, 207, 220, 233, 246, 259, 292, 305, 328, 351], 59) by decide +kernel) (by decide) (by decide) (by decide) (by decide) ?_
        exact law_out hx hb hml hown hts hnw hK hin ha hX hbl hi hl o9 hP hS next
      by_cases hv9 : v = 9
      · subst hv9
        refine lv_tableIn (off := 328) (tgt := 361) hx hb (show decode code 33 = .ok (.tableswitch 374 0 10 #[59, 194, 207, 220, 233, 246, 259, 292, 305, 328, 351], 59) by decide +kernel) (by decide) (by decide) (by decide) (by decide) ?_
        exact law_forget hx hb hml hown hts hnw hK hin ha hX hbl hi hl o10 hP hS next
      by_cases hv10 : v = 10
      · subst hv10
        refine lv_tableIn (off := 351) (tgt := 384) hx hb (show decode code 33 = .ok (.tableswitch 374 0 10 #[59, 194, 207, 220, 233, 246, 259, 292, 305, 328, 351], 59) by decide +kernel) (by decide) (by decide) (by decide) (by decide) ?_
        exact law_count hx hb hml hown hts hnw hK hin ha hX hbl hi hl o11 hP hS next
      have hne : ∀ k : Int32, v ≠ k → v.toInt ≠ k.toInt := fun k h9 h8 => h9 (Int32.toInt_inj.mp h8)
      have n0 : v.toInt ≠ 0 := hne 0 hv0
      have n1 : v.toInt ≠ 1 := hne 1 hv1
      have n2 : v.toInt ≠ 2 := hne 2 hv2
      have n3 : v.toInt ≠ 3 := hne 3 hv3
      have n4 : v.toInt ≠ 4 := hne 4 hv4
      have n5 : v.toInt ≠ 5 := hne 5 hv5
      have n6 : v.toInt ≠ 6 := hne 6 hv6
      have n7 : v.toInt ≠ 7 := hne 7 hv7
      have n8 : v.toInt ≠ 8 := hne 8 hv8
      have n9 : v.toInt ≠ 9 := hne 9 hv9
      have n10 : v.toInt ≠ 10 := hne 10 hv10
      refine lv_tableOut (tgt := 407) hx hb (show decode code 33 = .ok (.tableswitch 374 0 10 #[59, 194, 207, 220, 233, 246, 259, 292, 305, 328, 351], 59) by decide +kernel) (by omega) (by decide) ?_
      exact next σ H locs o0 hP hS
