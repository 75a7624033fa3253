theorem c_NW.warm {s U : State} (hW : s.WarmedH U.vm) (h : c_NW s) : c_NW U := by
  intro w hw hn
  have h1 := h w hw hn
  cases w <;> first | (cases hn; done) | exact va_Nw.warmM hW h1
theorem c_NW.calling {U : State} {g : JFrame} {mk : MethodId} {v : Array Value} (h : c_NW U) : c_NW (U.calling g mk v) := by
  intro w hw hn
  have h1 := h w hw hn
  cases w <;> first | (cases hn; done) | exact va_Nw.same rfl rfl h1
theorem c_blind {a : Nat → Nat} {cA : Nat → ClassId} {D : va_G} {sz : Nat} {as : List c_V} {σ : c_S} : FrameBlind (c_Pc a cA D sz as σ) := fun v U g mk q => by
  obtain ⟨q0, q1, qP, qK, qN⟩ := q
  exact ⟨q0, q1, qP, va_K.moved (u := U) (U := U.calling g mk v) (Vm.Alike.refl U.vm) qK, qN.calling⟩
theorem c_goodcons {y : MethodName} {b : ByteArray} {n : Nat} {r : Option FieldType} (h : Cond.code y b n r ∈ lw_tbl) : GoodIn lw_g (Cond.code y b n r :: lw_g) := by
  intro w hw
  rcases List.mem_cons.mp hw with rfl | hw
  · exact ⟨lw_g_of h rfl, Or.inl rfl⟩
  · exact ⟨hw, good_of_word (lw_g_good hw)⟩
theorem c_min1 : Cond.methodLink (d_nm 8) 143 Lib.Math.min.name ∈ lw_tbl := by decide +kernel
theorem c_min2 : Cond.static Lib.Math.min.name ∈ lw_tbl := by decide +kernel
theorem c_min3 : Cond.initialized "java/lang/Math" ∈ lw_tbl := by decide +kernel
theorem c_min4 : Cond.code Lib.Math.min.name Lib.Math.min.code 2 (some .int) ∈ lw_tbl := List.mem_of_getElem? (i := 668) (by decide +kernel)
section SS
variable {p : Program} {l : Launch} {e : Env} {s : State} {m : MethodId} {args : Array Value} {below : List Frame} {meth : Method} {c : Code} {cc : ByteArray} {d nL ow rb : Nat} {a : Nat → Nat} {cA : Nat → ClassId} {D : va_G} {x : c_S × Int32} {C : c_C} {K : c_K} {lv : c_L} {st : List c_V} {σ : c_S} {H : Heap} {locs : List Loc} {ls : Array Slot} {pc : Nat}
theorem c_stepV {i t u w : Nat} {ax : c_V} {F : List c_V → c_S → c_R} {Q : State → Prop} (hx : p.tables.exec = Jvm.exec) (hb : c.code = cc) (hml : c.maxLocals = nL) (hown : s.vm.findClass (d_nm ow) = some m.cls) (hts : ∀ w ∈ lw_g, w.before args s = true) (hnw : c_NW s) (hK : va_K D d_CL (c_tys cA) s) (hin : c_inj a)
    (hC : ∀ t as τ y, C t as τ = some y → c_Con l a cA D d t as τ y)
    (hck : (match ax with
      | .inr (.inr n) => decide ((ow, i, t, 0, 0, n, u, w) ∈ d_ML ∨ (ow, i, t, 1, 0, n, u, w) ∈ d_ML)
      | _ => false) = true) (hdg : decode cc pc = .ok (.invokevirtual i, 3)) (h : c_call d_CT true C ax t u w st σ F = some x)
    (hKK : ∀ st' σ' H' locs', F st' σ' = some x → va_P D d_CL (c_wld a cA σ') H' → va_S (c_A a s.heap.size) s.heap H' locs' → W p l e (c_rm (d + 1)) s m args below meth c H' locs' 0 0 Q (F0 m (pc + 3) ls (st'.map (dv a))))
    (hl : lv_has ls nL (c_dl a lv)) (hP : va_P D d_CL (c_wld a cA σ) H) (hS : va_S (c_A a s.heap.size) s.heap H locs) : W p l e (c_rm (d + 1)) s m args below meth c H locs 0 0 Q (F0 m pc ls (st.map (dv a))) := by
  unfold c_call at h
  replace h := iv_isR h
  obtain ⟨n, rfl, h⟩ := h
  dsimp only at h hck
  rcases hp : c_pop n [] st with _ | ⟨as, r⟩
  · rw [hp] at h; cases h
  rw [hp] at h
  obtain ⟨bs, e1, e2, e3⟩ := iv_pop _ _ _ _ _ hp
  rw [List.append_nil] at e1
  subst e1
  dsimp only at h
  cases hbl : Nat.ble (c_sum r) 8
  · rw [hbl] at h; cases h
  rw [hbl] at h
  dsimp only at h
  have hle : c_sum r ≤ 8 := Nat.le_of_ble_eq_true hbl
  replace h := iv_p1 h
  obtain ⟨v, As, rfl, h⟩ := h
  replace h := iv_isR h
  obtain ⟨k, rfl, h⟩ := h
  replace h := iv_obj h
  obtain ⟨sl, hsl, h⟩ := h
  subst e3
  -- the callee answers
  obtain ⟨τ, y, hcal, h⟩ : ∃ τ y, C t (.inr (.inr k) :: As) σ = some (τ, y) ∧ (match u with
      | 0 => F r τ
      | _ + 1 => F (.inl y :: r) τ) = some x := by
    cases u with
    | zero => exact iv_bd h
    | succ u => exact iv_bd h
  obtain ⟨q, hq, hM⟩ := hC _ _ _ _ hcal
  have hok := o_all q (c_nth_mem hq)
  obtain ⟨T', L', rb', ow', y', cc', mx', ret'⟩ := q
  obtain ⟨-, hcode, -, k1, hret, k2, k3, k4, k11⟩ := hok
  dsimp only at hcode k1 hret hM k2 k3 k4 k11
  have hml' : ∃ nest, (ow, i, t, nest, 0, n, u, w) ∈ d_ML := by
    rcases of_decide_eq_true hck with h9 | h9
    · exact ⟨0, h9⟩
    · exact ⟨1, h9⟩
  obtain ⟨nest, hmem⟩ := hml'
  have hk := k_ml _ hmem
  simp only [ck_ml, hq, Bool.and_eq_true, decide_eq_true_eq] at hk
  obtain ⟨k5, k9, k10⟩ := hk
  have hk2 := l_all _ hmem
  simp only [c_lok, hq] at hk2
  obtain ⟨k6, k7, k8⟩ := hk2
  have hst : ((.inr (.inr k) :: As).reverse ++ r).map (dv a) = (As.map (dv a)).reverse ++ .ref (a k) :: r.map (dv a) := by
    simp [dv]
  have hlen : (As.map (dv a)).length = n - 1 := by
    rw [List.length_map]; simp only [List.length_cons] at e2; omega
  have hdesc : (parseMethodDescriptor y'.desc).map (fun d => d.parameters.length) = some (n - 1) := by
    cases hd : parseMethodDescriptor y'.desc with
    | none => rw [hd] at k10; cases k10
    | some dd => rw [hd] at k10; have := Option.some.inj k10; simp only [Option.map_some]; rw [← this]; rfl
  have hRm : (c_rm d).frames + 1 ≤ (c_rm (d + 1)).frames ∧ 8 + (mx' + 11) + (c_rm d).locals ≤ (c_rm (d + 1)).locals := by
    constructor
    · exact Nat.le_refl _
    · show 8 + (mx' + 11) + 45 * d ≤ 45 * (d + 1); omega
  have he : (c_wld a cA σ)[k]? = some (a k, .inr (w, c_wf a (σ.1 k) 0 sl)) := by rw [c_wld_get, hsl]; rfl
  have hcl : ∃ cq, d_CL[w]? = some cq ∧ cq.1 = y'.cls := by
    rw [k1, ← k9]
    cases hc : c_nth d_CL w with
    | none =>
      rw [c_nth_eq] at hc
      have h13 : d_CL.length = 13 := rfl
      have := List.getElem?_eq_none_iff.mp hc
      omega
    | some cq => exact ⟨cq, by rw [← c_nth_eq]; exact hc, by simp only [d_nm, hc]⟩
  obtain ⟨cq, hcq, hcq2⟩ := hcl
  have hpre : PreV s H y'.cls (a k) (c_Pc a cA D H.size (.inr (.inr k) :: As) σ) (As.map (dv a)) := by
    refine ⟨c_blind, ?_, fun U hU hW => ⟨rfl, by rw [hU], by rw [hU]; exact hP, va_K.moved hW.alike hK, hnw.warm hW⟩⟩
    rw [← hcq2]
    exact va_recv hK hP hcq he
  rw [hst]
  have hA1 : ∀ q, q < H.size → c_A a H.size q → c_A a s.heap.size q := fun q h1 h2 => h2.elim Or.inl (fun h3 => absurd h3 (by omega))
  have hA2 : ∀ q, c_A a H.size q → c_A a s.heap.size q := fun q h2 => h2.elim Or.inl (fun h3 => Or.inr (Nat.le_trans hS.1 h3))
  have hrun : va_Run p l e (c_rm (d + 1)) s m args below meth c H locs 0 0 0 0 (F0 m pc ls ((As.map (dv a)).reverse ++ .ref (a k) :: r.map (dv a))) (r.map (dv a)) (c_Q a cA D (c_A a H.size) rb' (τ, y) ((Value.ref (a k) :: As.map (dv a)).toArray)) (c_A a H.size) := by
    have hroom : 2 * (F0 m pc ls ((As.map (dv a)).reverse ++ .ref (a k) :: r.map (dv a))).monitorRoom + ((r.map (dv a)).map fun v => v.category).sum ≤ 8 := lv_room (by rw [c_sum_eq]; exact hle)
    cases nest with
    | zero =>
      refine va_runV (C := y'.cls) (As := As.map (dv a)) ⟨hx, hb, hml, hown, hts⟩ (hM H.size) (cwV (n - 1) hts ?_ rfl rfl rfl ⟨rfl, k2.1, k2.2, hdesc⟩ hRm) hpre rfl hlen hl.1 rfl hroom hdg ⟨Nat.zero_le _, Nat.zero_le _⟩
      intro w9 hw9
      rcases List.mem_append.mp hw9 with hw9 | hw9
      · simp only [List.mem_cons, List.not_mem_nil, or_false] at hw9
        rcases hw9 with rfl | rfl | rfl | rfl
        · exact ⟨lw_g_of k6 rfl, Or.inl rfl⟩
        · exact ⟨lw_g_of k7 rfl, Or.inl rfl⟩
        · exact ⟨lw_g_of k8 rfl, Or.inl rfl⟩
        · exact ⟨lw_g_of k4 rfl, Or.inl rfl⟩
      · exact c_goodcons hcode _ hw9
    | succ nest =>
      exact va_runVN (C := y'.cls) (host := "FrameBench") (As := As.map (dv a)) ⟨hx, hb, hml, hown, hts⟩ (hM H.size) ⟨va_cnB (n - 1) hts (c_goodcons hcode) rfl rfl rfl (hnw _ k6 rfl) (hts _ (lw_g_of k4 rfl)) ⟨k2.1, k2.2, hdesc⟩ hRm, hts _ (lw_g_of k7 rfl), hts _ (lw_g_of k8 rfl)⟩ hpre rfl hlen hl.1 rfl hroom hdg ⟨Nat.zero_le _, Nat.zero_le _⟩
  cases rb' with
  | zero =>
    rw [if_pos rfl] at k5
    subst k5
    exact va_callv (a := #[]) hrun hS hA1 hA2 (fun u t H1 locs1 ht _ _ hB _ _ hS1 => hKK _ _ _ _ h (by rw [← ht]; exact hB) hS1)
  | succ rb' =>
    rw [if_neg (by omega)] at k5
    subst k5
    exact va_calli (a := #[]) hrun hS hA1 hA2 (fun r9 u t H1 locs1 ht _ hr9 hB _ _ hS1 => by
      rw [hr9]
      exact hKK _ _ _ _ h (by rw [← ht]; exact hB) hS1)
theorem c_stepS {i t u : Nat} {ax : c_V} {F : List c_V → c_S → c_R} {Q : State → Prop} (hx : p.tables.exec = Jvm.exec) (hb : c.code = cc) (hml : c.maxLocals = nL) (hown : s.vm.findClass (d_nm ow) = some m.cls) (hts : ∀ w ∈ lw_g, w.before args s = true) (hnw : c_NW s) (hK : va_K D d_CL (c_tys cA) s) (hin : c_inj a)
    (hC : ∀ t as τ y, C t as τ = some y → c_Con l a cA D d t as τ y)
    (hck : (match ax with
      | .inr (.inr n) => decide ((ow, i, t, 0, 1, n, u, 0) ∈ d_ML ∨ (ow, i, t, 1, 1, n, u, 0) ∈ d_ML)
      | _ => false) = true) (hdg : decode cc pc = .ok (.invokestatic i, 3)) (h : c_call d_CT false C ax t u 0 st σ F = some x)
    (hKK : ∀ st' σ' H' locs', F st' σ' = some x → va_P D d_CL (c_wld a cA σ') H' → va_S (c_A a s.heap.size) s.heap H' locs' → W p l e (c_rm (d + 1)) s m args below meth c H' locs' 0 0 Q (F0 m (pc + 3) ls (st'.map (dv a))))
    (hl : lv_has ls nL (c_dl a lv)) (hP : va_P D d_CL (c_wld a cA σ) H) (hS : va_S (c_A a s.heap.size) s.heap H locs) : W p l e (c_rm (d + 1)) s m args below meth c H locs 0 0 Q (F0 m pc ls (st.map (dv a))) := by
  unfold c_call at h
  replace h := iv_isR h
  obtain ⟨n, rfl, h⟩ := h
  dsimp only at h hck
  rcases hp : c_pop n [] st with _ | ⟨as, r⟩
  · rw [hp] at h; cases h
  rw [hp] at h
  obtain ⟨bs, e1, e2, e3⟩ := iv_pop _ _ _ _ _ hp
  rw [List.append_nil] at e1
  subst e1
  dsimp only at h
  cases hbl : Nat.ble (c_sum r) 8
  · rw [hbl] at h; cases h
  rw [hbl] at h
  dsimp only at h
  have hle : c_sum r ≤ 8 := Nat.le_of_ble_eq_true hbl
  subst e3
  obtain ⟨τ, y, hcal, h⟩ : ∃ τ y, C t as σ = some (τ, y) ∧ (match u with
      | 0 => F r τ
      | _ + 1 => F (.inl y :: r) τ) = some x := by
    cases u with
    | zero => exact iv_bd h
    | succ u => exact iv_bd h
  obtain ⟨q, hq, hM⟩ := hC _ _ _ _ hcal
  have hok := o_all q (c_nth_mem hq)
  obtain ⟨T', L', rb', ow', y', cc', mx', ret'⟩ := q
  obtain ⟨-, hcode, -, k1, hret, k2, k3, k4, k11⟩ := hok
  dsimp only at hcode k1 hret hM k2 k3 k4 k11
  have hml' : ∃ nest, (ow, i, t, nest, 1, n, u, 0) ∈ d_ML := by
    rcases of_decide_eq_true hck with h9 | h9
    · exact ⟨0, h9⟩
    · exact ⟨1, h9⟩
  obtain ⟨nest, hmem⟩ := hml'
  have hk := k_ml _ hmem
  simp only [ck_ml, hq, Bool.and_eq_true, decide_eq_true_eq] at hk
  obtain ⟨k5, k8, k10⟩ := hk
  have hk2 := l_all _ hmem
  simp only [c_lok, hq] at hk2
  obtain ⟨k6, k7⟩ := hk2
  have hst : (as.reverse ++ r).map (dv a) = (as.map (dv a)).reverse ++ r.map (dv a) := by simp
  have hlen : (as.map (dv a)).length = n := by rw [List.length_map]; exact e2
  have hRm : (c_rm d).frames + 1 ≤ (c_rm (d + 1)).frames ∧ 8 + (mx' + 11) + (c_rm d).locals ≤ (c_rm (d + 1)).locals := by
    constructor
    · exact Nat.le_refl _
    · show 8 + (mx' + 11) + 45 * d ≤ 45 * (d + 1); omega
  have hpre : PreS s H (c_Pc a cA D H.size as σ) (as.map (dv a)) :=
    ⟨c_blind, fun U hU hW => ⟨rfl, by rw [hU], by rw [hU]; exact hP, va_K.moved hW.alike hK, hnw.warm hW⟩⟩
  rw [hst]
  have hA1 : ∀ q, q < H.size → c_A a H.size q → c_A a s.heap.size q := fun q h1 h2 => h2.elim Or.inl (fun h3 => absurd h3 (by omega))
  have hA2 : ∀ q, c_A a H.size q → c_A a s.heap.size q := fun q h2 => h2.elim Or.inl (fun h3 => Or.inr (Nat.le_trans hS.1 h3))
  have hrun : va_Run p l e (c_rm (d + 1)) s m args below meth c H locs 0 0 0 0 (F0 m pc ls ((as.map (dv a)).reverse ++ r.map (dv a))) (r.map (dv a)) (c_Q a cA D (c_A a H.size) rb' (τ, y) ((as.map (dv a)).toArray)) (c_A a H.size) := by
    have hroom : 2 * (F0 m pc ls ((as.map (dv a)).reverse ++ r.map (dv a))).monitorRoom + ((r.map (dv a)).map fun v => v.category).sum ≤ 8 := lv_room (by rw [c_sum_eq]; exact hle)
    cases nest with
    | zero =>
      have k8' : y'.cls = d_nm ow := by simpa using k8
      refine va_runS (As := as.map (dv a)) ⟨hx, hb, hml, hown, hts⟩ (hM H.size) (cwS n hts ?_ rfl rfl rfl ⟨k8', k2.1, k2.2, k10⟩ hRm) hpre rfl hlen hl.1 rfl hroom hdg ⟨Nat.zero_le _, Nat.zero_le _⟩
      intro w9 hw9
      rcases List.mem_append.mp hw9 with hw9 | hw9
      · simp only [List.mem_cons, List.not_mem_nil, or_false] at hw9
        rcases hw9 with rfl | rfl | rfl
        · exact ⟨lw_g_of k6 rfl, Or.inl rfl⟩
        · exact ⟨lw_g_of k7 rfl, Or.inl rfl⟩
        · exact ⟨lw_g_of (by rw [← k8']; exact k4) rfl, Or.inl rfl⟩
      · exact c_goodcons hcode _ hw9
    | succ nest =>
      exact va_runSN (host := "FrameBench") (As := as.map (dv a)) ⟨hx, hb, hml, hown, hts⟩ (hM H.size) ⟨va_cnB n hts (c_goodcons hcode) rfl rfl rfl (hnw _ k6 rfl) (hts _ (lw_g_of k4 rfl)) ⟨k2.1, k2.2, k10⟩ hRm, hts _ (lw_g_of k7 rfl), trivial⟩ hpre rfl hlen hl.1 rfl hroom hdg ⟨Nat.zero_le _, Nat.zero_le _⟩
  cases rb' with
  | zero =>
    rw [if_pos rfl] at k5
    subst k5
    exact va_callv (a := #[]) hrun hS hA1 hA2 (fun u t H1 locs1 ht _ _ hB _ _ hS1 => hKK _ _ _ _ h (by rw [← ht]; exact hB) hS1)
  | succ rb' =>
    rw [if_neg (by omega)] at k5
    subst k5
    exact va_calli (a := #[]) hrun hS hA1 hA2 (fun r9 u t H1 locs1 ht _ hr9 hB _ _ hS1 => by
      rw [hr9]
      exact hKK _ _ _ _ h (by rw [← ht]; exact hB) hS1)
end SS
