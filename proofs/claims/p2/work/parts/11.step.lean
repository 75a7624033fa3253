section SS
variable {p : Program} {l : Launch} {e : Env} {s : State} {m : MethodId} {args : Array Value} {below : List Frame} {meth : Method} {c : Code} {cc : ByteArray} {d nL ow rb : Nat} {a : Nat → Nat} {cA : Nat → ClassId} {D : va_G} {x : c_S × Int32} {C : c_C} {K : c_K} {lv : c_L} {st : List c_V} {σ : c_S} {H : Heap} {locs : List Loc} {ls : Array Slot} {pc : Nat}
set_option maxHeartbeats 8000000 in
theorem c_step {E : c_E} (hx : p.tables.exec = Jvm.exec) (hb : c.code = cc) (hml : c.maxLocals = nL) (hown : s.vm.findClass (d_nm ow) = some m.cls) (hts : ∀ w ∈ lw_g, w.before args s = true) (hnw : c_NW s) (hK : va_K D d_CL (c_tys cA) s) (hin : c_inj a) (hlk : meth.locks = false) (hrt : meth.sig.returnType = c_rt rb)
    (hC : ∀ t as τ y, C t as τ = some y → c_Con l a cA D d t as τ y)
    (hck : ck_e ow cc (pc, E) = true) (hcs : ck_s nL (pc, E) = true) (h : c_s1 d_CT E rb C lv st σ K = some x)
    (hKK : ∀ pc' lv' st' σ' H' locs' ls', K pc' lv' st' σ' = some x → lv_has ls' nL (c_dl a lv') → va_P D d_CL (c_wld a cA σ') H' → va_S (c_A a s.heap.size) s.heap H' locs' → W p l e (c_rm (d + 1)) s m args below meth c H' locs' 0 0 (MQ below (c_Q a cA D (c_A a s.heap.size) rb x) args s 0 0 (c_A a s.heap.size)) (F0 m pc' ls' (st'.map (dv a))))
    (hl : lv_has ls nL (c_dl a lv)) (hP : va_P D d_CL (c_wld a cA σ) H) (hS : va_S (c_A a s.heap.size) s.heap H locs) : W p l e (c_rm (d + 1)) s m args below meth c H locs 0 0 (MQ below (c_Q a cA D (c_A a s.heap.size) rb x) args s 0 0 (c_A a s.heap.size)) (F0 m pc ls (st.map (dv a))) := by
  obtain ⟨ins, nx, ax, t, u, w, sw⟩ := E
  unfold c_s1 at h
  unfold ck_e at hck
  unfold ck_s at hcs
  rw [Bool.and_eq_true, Bool.and_eq_true, decide_eq_true_eq, decide_eq_true_eq] at hck
  cases ins with
  | aload_n i =>
    dsimp only [c_len] at hck h hcs
    obtain ⟨⟨rfl, hdg⟩, -⟩ := hck
    replace h := iv_at h
    obtain ⟨v, hv, h⟩ := h
    replace h := iv_isR h
    obtain ⟨k, rfl, h⟩ := h
    exact lv_aload_n hx hb hdg rfl (c_at_has hl hv) (hKK _ _ _ _ _ _ _ h hl hP hS)
  | aload i =>
    dsimp only [c_len] at hck h hcs
    obtain ⟨⟨rfl, hdg⟩, -⟩ := hck
    replace h := iv_at h
    obtain ⟨v, hv, h⟩ := h
    replace h := iv_isR h
    obtain ⟨k, rfl, h⟩ := h
    exact lv_aload hx hb hdg (c_at_has hl hv) (hKK _ _ _ _ _ _ _ h hl hP hS)
  | iload_n i =>
    dsimp only [c_len] at hck h hcs
    obtain ⟨⟨rfl, hdg⟩, -⟩ := hck
    replace h := iv_at h
    obtain ⟨v, hv, h⟩ := h
    replace h := iv_isI h
    obtain ⟨k, rfl, h⟩ := h
    exact lv_iload_n hx hb hdg rfl (c_at_has hl hv) (hKK _ _ _ _ _ _ _ h hl hP hS)
  | iload i =>
    dsimp only [c_len] at hck h hcs
    obtain ⟨⟨rfl, hdg⟩, -⟩ := hck
    replace h := iv_at h
    obtain ⟨v, hv, h⟩ := h
    replace h := iv_isI h
    obtain ⟨k, rfl, h⟩ := h
    exact lv_iload hx hb hdg (c_at_has hl hv) (hKK _ _ _ _ _ _ _ h hl hP hS)
  | lload_n i =>
    dsimp only [c_len] at hck h hcs
    obtain ⟨⟨rfl, hdg⟩, -⟩ := hck
    replace h := iv_at h
    obtain ⟨v, hv, h⟩ := h
    replace h := iv_isL h
    obtain ⟨k, rfl, h⟩ := h
    exact lv_lload_n hx hb hdg rfl (c_at_has hl hv) (hKK _ _ _ _ _ _ _ h hl hP hS)
  | lload i =>
    dsimp only [c_len] at hck h hcs
    obtain ⟨⟨rfl, hdg⟩, -⟩ := hck
    replace h := iv_at h
    obtain ⟨v, hv, h⟩ := h
    replace h := iv_isL h
    obtain ⟨k, rfl, h⟩ := h
    exact lv_lload hx hb hdg (c_at_has hl hv) (hKK _ _ _ _ _ _ _ h hl hP hS)
  | istore_n i =>
    dsimp only [c_len] at hck h hcs
    obtain ⟨⟨rfl, hdg⟩, -⟩ := hck
    replace h := iv_p1 h
    obtain ⟨v, r, rfl, h⟩ := h
    replace h := iv_isI h
    obtain ⟨y, rfl, h⟩ := h
    exact lv_istore_n hx hb hdg rfl hl (of_decide_eq_true hcs) rfl (fun ls hl2 => hKK _ _ _ _ _ _ _ h (c_st1_has rfl hl2) hP hS)
  | istore i =>
    dsimp only [c_len] at hck h hcs
    obtain ⟨⟨rfl, hdg⟩, -⟩ := hck
    replace h := iv_p1 h
    obtain ⟨v, r, rfl, h⟩ := h
    replace h := iv_isI h
    obtain ⟨y, rfl, h⟩ := h
    exact lv_istore hx hb hdg hl (of_decide_eq_true hcs) rfl (fun ls hl2 => hKK _ _ _ _ _ _ _ h (c_st1_has rfl hl2) hP hS)
  | lstore_n i =>
    dsimp only [c_len] at hck h hcs
    obtain ⟨⟨rfl, hdg⟩, -⟩ := hck
    replace h := iv_p1 h
    obtain ⟨v, r, rfl, h⟩ := h
    replace h := iv_isL h
    obtain ⟨y, rfl, h⟩ := h
    exact lv_lstore_n hx hb hdg rfl hl (of_decide_eq_true hcs) rfl (fun ls hl2 => hKK _ _ _ _ _ _ _ h (c_st2_has rfl hl2) hP hS)
  | lstore i =>
    dsimp only [c_len] at hck h hcs
    obtain ⟨⟨rfl, hdg⟩, -⟩ := hck
    replace h := iv_p1 h
    obtain ⟨v, r, rfl, h⟩ := h
    replace h := iv_isL h
    obtain ⟨y, rfl, h⟩ := h
    exact lv_lstore hx hb hdg hl (of_decide_eq_true hcs) rfl (fun ls hl2 => hKK _ _ _ _ _ _ _ h (c_st2_has rfl hl2) hP hS)
  | iinc i n =>
    dsimp only [c_len] at hck h hcs
    obtain ⟨⟨rfl, hdg⟩, hck⟩ := hck
    replace h := iv_at h
    obtain ⟨v, hv, h⟩ := h
    replace h := iv_isI h
    obtain ⟨y, rfl, h⟩ := h
    replace h := iv_isI h
    obtain ⟨z, rfl, h⟩ := h
    have hz : z = Int32.ofInt n := Sum.inl.inj (of_decide_eq_true hck)
    obtain ⟨k, hk⟩ := List.getElem?_of_mem (List.mem_map.mpr ⟨(i, .inl y), c_lk_mem hv, rfl⟩ : (i, dv a (.inl y)) ∈ c_dl a lv)
    exact lv_iinc hx hb hdg hl hk (by rw [← hz]) (of_decide_eq_true hcs) rfl (fun ls hl2 => hKK _ _ _ _ _ _ _ h (c_st1_has rfl hl2) hP hS)
  | iconst n =>
    dsimp only [c_len] at hck h hcs
    obtain ⟨⟨rfl, hdg⟩, hck⟩ := hck
    replace h := iv_isI h
    obtain ⟨y, rfl, h⟩ := h
    exact lv_iconst hx hb hdg (Sum.inl.inj (of_decide_eq_true hck)).symm (hKK _ _ _ _ _ _ _ h hl hP hS)
  | bipush n =>
    dsimp only [c_len] at hck h hcs
    obtain ⟨⟨rfl, hdg⟩, hck⟩ := hck
    replace h := iv_isI h
    obtain ⟨y, rfl, h⟩ := h
    exact lv_bipush hx hb hdg (Sum.inl.inj (of_decide_eq_true hck)).symm (hKK _ _ _ _ _ _ _ h hl hP hS)
  | sipush n =>
    dsimp only [c_len] at hck h hcs
    obtain ⟨⟨rfl, hdg⟩, hck⟩ := hck
    replace h := iv_isI h
    obtain ⟨y, rfl, h⟩ := h
    exact lv_sipush hx hb hdg (Sum.inl.inj (of_decide_eq_true hck)).symm (hKK _ _ _ _ _ _ _ h hl hP hS)
  | lconst n =>
    dsimp only [c_len] at hck h hcs
    obtain ⟨⟨rfl, hdg⟩, hck⟩ := hck
    replace h := iv_isL h
    obtain ⟨y, rfl, h⟩ := h
    exact lv_lconst hx hb hdg (Sum.inl.inj (Sum.inr.inj (of_decide_eq_true hck))).symm (hKK _ _ _ _ _ _ _ h hl hP hS)
  | ldc i =>
    dsimp only [c_len] at hck h hcs
    obtain ⟨⟨rfl, hdg⟩, hck⟩ := hck
    replace h := iv_isI h
    obtain ⟨y, rfl, h⟩ := h
    exact lv_ldc hx hb hown (hts _ (lw_g_of (k_ki _ (of_decide_eq_true hck)) rfl)) hdg (hKK _ _ _ _ _ _ _ h hl hP hS)
  | ldc2_w i =>
    dsimp only [c_len] at hck h hcs
    obtain ⟨⟨rfl, hdg⟩, hck⟩ := hck
    replace h := iv_isL h
    obtain ⟨y, rfl, h⟩ := h
    exact lv_ldc2 hx hb hown (hts _ (lw_g_of (k_kl _ (of_decide_eq_true hck)) rfl)) hdg (hKK _ _ _ _ _ _ _ h hl hP hS)
  | iadd =>
    dsimp only [c_len] at hck h hcs
    obtain ⟨⟨rfl, hdg⟩, -⟩ := hck
    replace h := iv_p1 h
    obtain ⟨v, r, rfl, h⟩ := h
    replace h := iv_isI h
    obtain ⟨y, rfl, h⟩ := h
    replace h := iv_p1 h
    obtain ⟨v, r, rfl, h⟩ := h
    replace h := iv_isI h
    obtain ⟨z, rfl, h⟩ := h
    exact lv_iadd hx hb hdg (hKK _ _ _ _ _ _ _ h hl hP hS)
  | isub =>
    dsimp only [c_len] at hck h hcs
    obtain ⟨⟨rfl, hdg⟩, -⟩ := hck
    replace h := iv_p1 h
    obtain ⟨v, r, rfl, h⟩ := h
    replace h := iv_isI h
    obtain ⟨y, rfl, h⟩ := h
    replace h := iv_p1 h
    obtain ⟨v, r, rfl, h⟩ := h
    replace h := iv_isI h
    obtain ⟨z, rfl, h⟩ := h
    exact lv_isub hx hb hdg (hKK _ _ _ _ _ _ _ h hl hP hS)
  | imul =>
    dsimp only [c_len] at hck h hcs
    obtain ⟨⟨rfl, hdg⟩, -⟩ := hck
    replace h := iv_p1 h
    obtain ⟨v, r, rfl, h⟩ := h
    replace h := iv_isI h
    obtain ⟨y, rfl, h⟩ := h
    replace h := iv_p1 h
    obtain ⟨v, r, rfl, h⟩ := h
    replace h := iv_isI h
    obtain ⟨z, rfl, h⟩ := h
    exact lv_imul hx hb hdg (hKK _ _ _ _ _ _ _ h hl hP hS)
  | iand =>
    dsimp only [c_len] at hck h hcs
    obtain ⟨⟨rfl, hdg⟩, -⟩ := hck
    replace h := iv_p1 h
    obtain ⟨v, r, rfl, h⟩ := h
    replace h := iv_isI h
    obtain ⟨y, rfl, h⟩ := h
    replace h := iv_p1 h
    obtain ⟨v, r, rfl, h⟩ := h
    replace h := iv_isI h
    obtain ⟨z, rfl, h⟩ := h
    exact lv_iand hx hb hdg (hKK _ _ _ _ _ _ _ h hl hP hS)
  | ladd =>
    dsimp only [c_len] at hck h hcs
    obtain ⟨⟨rfl, hdg⟩, -⟩ := hck
    replace h := iv_p1 h
    obtain ⟨v, r, rfl, h⟩ := h
    replace h := iv_isL h
    obtain ⟨y, rfl, h⟩ := h
    replace h := iv_p1 h
    obtain ⟨v, r, rfl, h⟩ := h
    replace h := iv_isL h
    obtain ⟨z, rfl, h⟩ := h
    exact lv_ladd hx hb hdg (hKK _ _ _ _ _ _ _ h hl hP hS)
  | lmul =>
    dsimp only [c_len] at hck h hcs
    obtain ⟨⟨rfl, hdg⟩, -⟩ := hck
    replace h := iv_p1 h
    obtain ⟨v, r, rfl, h⟩ := h
    replace h := iv_isL h
    obtain ⟨y, rfl, h⟩ := h
    replace h := iv_p1 h
    obtain ⟨v, r, rfl, h⟩ := h
    replace h := iv_isL h
    obtain ⟨z, rfl, h⟩ := h
    exact lv_lmul hx hb hdg (hKK _ _ _ _ _ _ _ h hl hP hS)
  | land =>
    dsimp only [c_len] at hck h hcs
    obtain ⟨⟨rfl, hdg⟩, -⟩ := hck
    replace h := iv_p1 h
    obtain ⟨v, r, rfl, h⟩ := h
    replace h := iv_isL h
    obtain ⟨y, rfl, h⟩ := h
    replace h := iv_p1 h
    obtain ⟨v, r, rfl, h⟩ := h
    replace h := iv_isL h
    obtain ⟨z, rfl, h⟩ := h
    exact lv_land hx hb hdg (hKK _ _ _ _ _ _ _ h hl hP hS)
  | lor =>
    dsimp only [c_len] at hck h hcs
    obtain ⟨⟨rfl, hdg⟩, -⟩ := hck
    replace h := iv_p1 h
    obtain ⟨v, r, rfl, h⟩ := h
    replace h := iv_isL h
    obtain ⟨y, rfl, h⟩ := h
    replace h := iv_p1 h
    obtain ⟨v, r, rfl, h⟩ := h
    replace h := iv_isL h
    obtain ⟨z, rfl, h⟩ := h
    exact lv_lor hx hb hdg (hKK _ _ _ _ _ _ _ h hl hP hS)
  | lcmp =>
    dsimp only [c_len] at hck h hcs
    obtain ⟨⟨rfl, hdg⟩, -⟩ := hck
    replace h := iv_p1 h
    obtain ⟨v, r, rfl, h⟩ := h
    replace h := iv_isL h
    obtain ⟨y, rfl, h⟩ := h
    replace h := iv_p1 h
    obtain ⟨v, r, rfl, h⟩ := h
    replace h := iv_isL h
    obtain ⟨z, rfl, h⟩ := h
    exact W.lcmp hx hb hdg (hKK _ _ _ _ _ _ _ h hl hP hS)
  | idiv =>
    dsimp only [c_len] at hck h hcs
    obtain ⟨⟨rfl, hdg⟩, -⟩ := hck
    replace h := iv_p1 h
    obtain ⟨v, r, rfl, h⟩ := h
    replace h := iv_isI h
    obtain ⟨y, rfl, h⟩ := h
    replace h := iv_p1 h
    obtain ⟨v, r, rfl, h⟩ := h
    replace h := iv_isI h
    obtain ⟨z, rfl, h⟩ := h
    split at h
    · cases h
    · rename_i hne
      exact lv_idiv hx hb hdg hne (hKK _ _ _ _ _ _ _ h hl hP hS)
  | irem =>
    dsimp only [c_len] at hck h hcs
    obtain ⟨⟨rfl, hdg⟩, -⟩ := hck
    replace h := iv_p1 h
    obtain ⟨v, r, rfl, h⟩ := h
    replace h := iv_isI h
    obtain ⟨y, rfl, h⟩ := h
    replace h := iv_p1 h
    obtain ⟨v, r, rfl, h⟩ := h
    replace h := iv_isI h
    obtain ⟨z, rfl, h⟩ := h
    split at h
    · cases h
    · rename_i hne
      exact lv_irem hx hb hdg hne (hKK _ _ _ _ _ _ _ h hl hP hS)
  | ldiv =>
    dsimp only [c_len] at hck h hcs
    obtain ⟨⟨rfl, hdg⟩, -⟩ := hck
    replace h := iv_p1 h
    obtain ⟨v, r, rfl, h⟩ := h
    replace h := iv_isL h
    obtain ⟨y, rfl, h⟩ := h
    replace h := iv_p1 h
    obtain ⟨v, r, rfl, h⟩ := h
    replace h := iv_isL h
    obtain ⟨z, rfl, h⟩ := h
    split at h
    · cases h
    · rename_i hne
      exact lv_ldiv hx hb hdg hne (hKK _ _ _ _ _ _ _ h hl hP hS)
  | lrem =>
    dsimp only [c_len] at hck h hcs
    obtain ⟨⟨rfl, hdg⟩, -⟩ := hck
    replace h := iv_p1 h
    obtain ⟨v, r, rfl, h⟩ := h
    replace h := iv_isL h
    obtain ⟨y, rfl, h⟩ := h
    replace h := iv_p1 h
    obtain ⟨v, r, rfl, h⟩ := h
    replace h := iv_isL h
    obtain ⟨z, rfl, h⟩ := h
    split at h
    · cases h
    · rename_i hne
      exact lv_lrem hx hb hdg hne (hKK _ _ _ _ _ _ _ h hl hP hS)
  | ineg =>
    dsimp only [c_len] at hck h hcs
    obtain ⟨⟨rfl, hdg⟩, -⟩ := hck
    replace h := iv_p1 h
    obtain ⟨v, r, rfl, h⟩ := h
    replace h := iv_isI h
    obtain ⟨y, rfl, h⟩ := h
    exact lv_ineg hx hb hdg (hKK _ _ _ _ _ _ _ h hl hP hS)
  | lshl =>
    dsimp only [c_len] at hck h hcs
    obtain ⟨⟨rfl, hdg⟩, -⟩ := hck
    replace h := iv_p1 h
    obtain ⟨v, r, rfl, h⟩ := h
    replace h := iv_isI h
    obtain ⟨y, rfl, h⟩ := h
    replace h := iv_p1 h
    obtain ⟨v, r, rfl, h⟩ := h
    replace h := iv_isL h
    obtain ⟨z, rfl, h⟩ := h
    exact lv_lshl hx hb hdg rfl (hKK _ _ _ _ _ _ _ h hl hP hS)
  | lshr =>
    dsimp only [c_len] at hck h hcs
    obtain ⟨⟨rfl, hdg⟩, -⟩ := hck
    replace h := iv_p1 h
    obtain ⟨v, r, rfl, h⟩ := h
    replace h := iv_isI h
    obtain ⟨y, rfl, h⟩ := h
    replace h := iv_p1 h
    obtain ⟨v, r, rfl, h⟩ := h
    replace h := iv_isL h
    obtain ⟨z, rfl, h⟩ := h
    exact lv_lshr hx hb hdg rfl (hKK _ _ _ _ _ _ _ h hl hP hS)
  | lushr =>
    dsimp only [c_len] at hck h hcs
    obtain ⟨⟨rfl, hdg⟩, -⟩ := hck
    replace h := iv_p1 h
    obtain ⟨v, r, rfl, h⟩ := h
    replace h := iv_isI h
    obtain ⟨y, rfl, h⟩ := h
    replace h := iv_p1 h
    obtain ⟨v, r, rfl, h⟩ := h
    replace h := iv_isL h
    obtain ⟨z, rfl, h⟩ := h
    exact lv_lushr hx hb hdg rfl (hKK _ _ _ _ _ _ _ h hl hP hS)
  | i2l =>
    dsimp only [c_len] at hck h hcs
    obtain ⟨⟨rfl, hdg⟩, -⟩ := hck
    replace h := iv_p1 h
    obtain ⟨v, r, rfl, h⟩ := h
    replace h := iv_isI h
    obtain ⟨y, rfl, h⟩ := h
    exact lv_i2l hx hb hdg rfl (hKK _ _ _ _ _ _ _ h hl hP hS)
  | l2i =>
    dsimp only [c_len] at hck h hcs
    obtain ⟨⟨rfl, hdg⟩, -⟩ := hck
    replace h := iv_p1 h
    obtain ⟨v, r, rfl, h⟩ := h
    replace h := iv_isL h
    obtain ⟨y, rfl, h⟩ := h
    exact lv_l2i hx hb hdg rfl (hKK _ _ _ _ _ _ _ h hl hP hS)
  | i2c =>
    dsimp only [c_len] at hck h hcs
    obtain ⟨⟨rfl, hdg⟩, -⟩ := hck
    replace h := iv_p1 h
    obtain ⟨v, r, rfl, h⟩ := h
    replace h := iv_isI h
    obtain ⟨y, rfl, h⟩ := h
    exact lv_i2c hx hb hdg rfl (hKK _ _ _ _ _ _ _ h hl hP hS)
  | dup =>
    dsimp only [c_len] at hck h hcs
    obtain ⟨⟨rfl, hdg⟩, -⟩ := hck
    replace h := iv_p1 h
    obtain ⟨v, r, rfl, h⟩ := h
    rcases v with v | v | v
    · exact lv_dup hx hb hdg rfl (hKK _ _ _ _ _ _ _ h hl hP hS)
    · cases h
    · exact lv_dup hx hb hdg rfl (hKK _ _ _ _ _ _ _ h hl hP hS)
  | pop =>
    dsimp only [c_len] at hck h hcs
    obtain ⟨⟨rfl, hdg⟩, -⟩ := hck
    replace h := iv_p1 h
    obtain ⟨v, r, rfl, h⟩ := h
    replace h := iv_isI h
    obtain ⟨y, rfl, h⟩ := h
    exact lv_pop hx hb hdg rfl (hKK _ _ _ _ _ _ _ h hl hP hS)
  | goto f =>
    dsimp only [c_len] at hck h hcs
    obtain ⟨⟨rfl, hdg⟩, hck⟩ := hck
    exact lv_goto hx hb hdg (of_decide_eq_true hck) (hKK _ _ _ _ _ _ _ h hl hP hS)
  | if_icmp cd f =>
    dsimp only [c_len] at hck h hcs
    obtain ⟨⟨rfl, hdg⟩, hck⟩ := hck
    replace h := iv_p1 h
    obtain ⟨v, r, rfl, h⟩ := h
    replace h := iv_isI h
    obtain ⟨y, rfl, h⟩ := h
    replace h := iv_p1 h
    obtain ⟨v, r, rfl, h⟩ := h
    replace h := iv_isI h
    obtain ⟨z, rfl, h⟩ := h
    cases cd with
    | eq =>
      dsimp only at h
      split at h
      · rename_i hc
        exact lv_icmp_eq hx hb hdg (of_decide_eq_true hck) (fun _ => hKK _ _ _ _ _ _ _ h hl hP hS) (fun q => absurd hc q)
      · rename_i hc
        exact lv_icmp_eq hx hb hdg (of_decide_eq_true hck) (fun q => absurd q hc) (fun _ => hKK _ _ _ _ _ _ _ h hl hP hS)
    | ge =>
      dsimp only at h
      split at h
      · rename_i hc
        exact lv_icmp_ge hx hb hdg (of_decide_eq_true hck) (fun q => absurd hc (Int32.not_lt.mpr q)) (fun _ => hKK _ _ _ _ _ _ _ h hl hP hS)
      · rename_i hc
        exact lv_icmp_ge hx hb hdg (of_decide_eq_true hck) (fun _ => hKK _ _ _ _ _ _ _ h hl hP hS) (fun q => absurd (Int32.not_lt.mp hc) q)
    | gt =>
      dsimp only at h
      split at h
      · rename_i hc
        exact lv_icmp_gt hx hb hdg (of_decide_eq_true hck) (fun _ => hKK _ _ _ _ _ _ _ h hl hP hS) (fun q => absurd hc q)
      · rename_i hc
        exact lv_icmp_gt hx hb hdg (of_decide_eq_true hck) (fun q => absurd q hc) (fun _ => hKK _ _ _ _ _ _ _ h hl hP hS)
    | le =>
      dsimp only at h
      split at h
      · rename_i hc
        exact lv_icmp_le hx hb hdg (of_decide_eq_true hck) (fun q => absurd hc (Int32.not_lt.mpr q)) (fun _ => hKK _ _ _ _ _ _ _ h hl hP hS)
      · rename_i hc
        exact lv_icmp_le hx hb hdg (of_decide_eq_true hck) (fun _ => hKK _ _ _ _ _ _ _ h hl hP hS) (fun q => absurd (Int32.not_lt.mp hc) q)
    | lt =>
      dsimp only at h
      split at h
      · rename_i hc
        exact lv_icmp_lt hx hb hdg (of_decide_eq_true hck) (fun _ => hKK _ _ _ _ _ _ _ h hl hP hS) (fun q => absurd hc q)
      · rename_i hc
        exact lv_icmp_lt hx hb hdg (of_decide_eq_true hck) (fun q => absurd q hc) (fun _ => hKK _ _ _ _ _ _ _ h hl hP hS)
    | ne =>
      dsimp only at h
      split at h
      · rename_i hc
        exact lv_icmp_ne hx hb hdg (of_decide_eq_true hck) (fun q => absurd hc q) (fun _ => hKK _ _ _ _ _ _ _ h hl hP hS)
      · rename_i hc
        exact lv_icmp_ne hx hb hdg (of_decide_eq_true hck) (fun _ => hKK _ _ _ _ _ _ _ h hl hP hS) (fun q => absurd q hc)
  | ifCond cd f =>
    dsimp only [c_len] at hck h hcs
    obtain ⟨⟨rfl, hdg⟩, hck⟩ := hck
    replace h := iv_p1 h
    obtain ⟨v, r, rfl, h⟩ := h
    replace h := iv_isI h
    obtain ⟨y, rfl, h⟩ := h
    cases cd with
    | eq =>
      dsimp only at h
      split at h
      · rename_i hc
        exact lv_if_eq hx hb hdg (of_decide_eq_true hck) (fun _ => hKK _ _ _ _ _ _ _ h hl hP hS) (fun q => absurd hc q)
      · rename_i hc
        exact lv_if_eq hx hb hdg (of_decide_eq_true hck) (fun q => absurd q hc) (fun _ => hKK _ _ _ _ _ _ _ h hl hP hS)
    | ge =>
      dsimp only at h
      split at h
      · rename_i hc
        exact lv_if_ge hx hb hdg (of_decide_eq_true hck) (fun q => absurd hc (Int32.not_lt.mpr q)) (fun _ => hKK _ _ _ _ _ _ _ h hl hP hS)
      · rename_i hc
        exact lv_if_ge hx hb hdg (of_decide_eq_true hck) (fun _ => hKK _ _ _ _ _ _ _ h hl hP hS) (fun q => absurd (Int32.not_lt.mp hc) q)
    | gt =>
      dsimp only at h
      split at h
      · rename_i hc
        exact lv_if_gt hx hb hdg (of_decide_eq_true hck) (fun _ => hKK _ _ _ _ _ _ _ h hl hP hS) (fun q => absurd hc q)
      · rename_i hc
        exact lv_if_gt hx hb hdg (of_decide_eq_true hck) (fun q => absurd q hc) (fun _ => hKK _ _ _ _ _ _ _ h hl hP hS)
    | le =>
      dsimp only at h
      split at h
      · rename_i hc
        exact lv_if_le hx hb hdg (of_decide_eq_true hck) (fun q => absurd hc (Int32.not_lt.mpr q)) (fun _ => hKK _ _ _ _ _ _ _ h hl hP hS)
      · rename_i hc
        exact lv_if_le hx hb hdg (of_decide_eq_true hck) (fun _ => hKK _ _ _ _ _ _ _ h hl hP hS) (fun q => absurd (Int32.not_lt.mp hc) q)
    | lt =>
      dsimp only at h
      split at h
      · rename_i hc
        exact lv_if_lt hx hb hdg (of_decide_eq_true hck) (fun _ => hKK _ _ _ _ _ _ _ h hl hP hS) (fun q => absurd hc q)
      · rename_i hc
        exact lv_if_lt hx hb hdg (of_decide_eq_true hck) (fun q => absurd q hc) (fun _ => hKK _ _ _ _ _ _ _ h hl hP hS)
    | ne =>
      dsimp only at h
      split at h
      · rename_i hc
        exact lv_if_ne hx hb hdg (of_decide_eq_true hck) (fun q => absurd hc q) (fun _ => hKK _ _ _ _ _ _ _ h hl hP hS)
      · rename_i hc
        exact lv_if_ne hx hb hdg (of_decide_eq_true hck) (fun _ => hKK _ _ _ _ _ _ _ h hl hP hS) (fun q => absurd q hc)
  | tableswitch df lo hi fs =>
    dsimp only [c_len] at hck h hcs
    obtain ⟨⟨-, hdg⟩, hck⟩ := hck
    replace h := iv_p1 h
    obtain ⟨v, r, rfl, h⟩ := h
    replace h := iv_isI h
    obtain ⟨y, rfl, h⟩ := h
    simp only [Bool.and_eq_true, decide_eq_true_eq] at hck
    obtain ⟨⟨⟨h1, h2⟩, h3⟩, h4⟩ := hck
    have hsz : (fs.toList.length : Int) = hi - lo + 1 := by rw [Array.length_toList]; omega
    rcases c_sw_tab fs.toList sw lo h4 (by omega) (by omega) h with ⟨h5, h⟩ | ⟨j, f, g, e1, e2, e3, h⟩
    · exact lv_tableOut hx hb hdg (by omega) h1 (hKK _ _ _ _ _ _ _ h hl hP hS)
    · have hj : j < fs.toList.length := (List.getElem?_eq_some_iff.mp e1).1
      exact lv_tableIn hx hb hdg (by omega) (by omega) (by rw [show (y.toInt - lo).toNat = j by omega, ← Array.getElem?_toList]; exact e1) e3 (hKK _ _ _ _ _ _ _ h hl hP hS)
  | lookupswitch df ps =>
    dsimp only [c_len] at hck h hcs
    obtain ⟨⟨-, hdg⟩, hck⟩ := hck
    replace h := iv_p1 h
    obtain ⟨v, r, rfl, h⟩ := h
    replace h := iv_isI h
    obtain ⟨y, rfl, h⟩ := h
    simp only [Bool.and_eq_true, decide_eq_true_eq] at hck
    obtain ⟨⟨h1, h2⟩, h4⟩ := hck
    obtain ⟨g, e1, h⟩ := c_sw_lk h1 ps.toList sw h4 h
    exact lv_lookup hx hb hdg h2 rfl e1 (hKK _ _ _ _ _ _ _ h hl hP hS)
  | getfield i =>
    dsimp only [c_len] at hck h hcs
    obtain ⟨⟨rfl, hdg⟩, hck⟩ := hck
    replace h := iv_p1 h
    obtain ⟨v, r, rfl, h⟩ := h
    replace h := iv_isR h
    obtain ⟨k, rfl, h⟩ := h
    replace h := iv_obj h
    obtain ⟨sl, hsl, h⟩ := h
    obtain ⟨C0, T0, N0, hc, F1, F2, F3, F4, -, -⟩ := c_fld (of_decide_eq_true hck) hts
    have he : (c_wld a cA σ)[k]? = some (a k, .inr (u, c_wf a (σ.1 k) 0 sl)) := by rw [c_wld_get, hsl]; rfl
    have hg : ∀ (n : Nat), c_nth sl t = some n → (c_wf a (σ.1 k) 0 sl)[t]? = some (match n with
        | n + 2 => Value.ref (a n)
        | _ => Value.int (σ.1 k (0 + t))) := fun n hn => by rw [c_wf_get, hn]; rfl
    rcases hn : c_nth sl t with _ | _ | _ | n
    · rw [hn] at h; cases h
    · rw [hn] at h
      have hv := hg _ hn
      simp only [Nat.zero_add] at hv
      exact va_get hx hb hts F1 hown hK hP k he hc t F2 F3 (fun _ h9 => by rw [F4] at h9; exact h9) hv hdg (hKK _ _ _ _ _ _ _ h hl hP hS)
    · rw [hn] at h
      have hv := hg _ hn
      simp only [Nat.zero_add] at hv
      exact va_get hx hb hts F1 hown hK hP k he hc t F2 F3 (fun _ h9 => by rw [F4] at h9; exact h9) hv hdg (hKK _ _ _ _ _ _ _ h hl hP hS)
    · rw [hn] at h
      exact va_get hx hb hts F1 hown hK hP k he hc t F2 F3 (fun _ h9 => by rw [F4] at h9; exact h9) (hg _ hn) hdg (hKK _ _ _ _ _ _ _ h hl hP hS)
  | putfield i =>
    dsimp only [c_len] at hck h hcs
    obtain ⟨⟨rfl, hdg⟩, hck⟩ := hck
    replace h := iv_p1 h
    obtain ⟨v, r, rfl, h⟩ := h
    replace h := iv_isI h
    obtain ⟨y, rfl, h⟩ := h
    replace h := iv_p1 h
    obtain ⟨v, r, rfl, h⟩ := h
    replace h := iv_isR h
    obtain ⟨k, rfl, h⟩ := h
    replace h := iv_obj h
    obtain ⟨sl, hsl, h⟩ := h
    obtain ⟨C0, T0, N0, hc, F1, F2, F3, F4, F5, ty0, F6, F7⟩ := c_fld (of_decide_eq_true hck) hts
    have he : (c_wld a cA σ)[k]? = some (a k, .inr (u, c_wf a (σ.1 k) 0 sl)) := by rw [c_wld_get, hsl]; rfl
    have hkt := k_ct _ (c_nth_mem hsl)
    simp only [ck_ct, Bool.and_eq_true, decide_eq_true_eq] at hkt
    have hsj := List.all_eq_true.mp hkt.2
    have hup : ∀ n, c_nth sl t = some n → n < 2 → c_wld a cA (c_put σ k t y) = (c_wld a cA σ).set k (a k, .inr (u, (c_wf a (σ.1 k) 0 sl).set t (.int y))) := fun n hn h2 => by
      rw [c_wld_upd (σ := σ) (σ' := c_put σ k t y) (fun i hi => c_put_ne hi) (fun i _ => rfl) hsl]
      simp only [c_we, c_put_eq, c_wf_set hn h2]
    rcases hn : c_nth sl t with _ | _ | _ | n
    · rw [hn] at h; cases h
    · rw [hn] at h
      have hj := hsj t (List.mem_range.mpr (c_nth_lt hn))
      simp only [hn, Bool.and_eq_true, decide_eq_true_eq, Bool.not_eq_true'] at hj
      rw [← F5] at hj
      exact va_put (ty := .int) hx hb hts F1 ty0 F6 F7 hown hK hP (c_D_of hin) hS k he hc t F2 F3 (fun _ h9 => by rw [F4] at h9; exact h9) hj.2 (by rw [hj.1]; decide +kernel) rfl rfl (by rw [c_wf_len]; exact c_nth_lt hn) hdg (fun H1 locs1 hP1 _ hS1 => hKK _ _ _ _ _ _ _ h hl (by rw [hup _ hn (by omega)]; exact hP1) hS1)
    · rw [hn] at h
      have hj := hsj t (List.mem_range.mpr (c_nth_lt hn))
      simp only [hn, Bool.and_eq_true, decide_eq_true_eq, Bool.not_eq_true'] at hj
      rw [← F5] at hj
      dsimp only at h
      split at h
      · rename_i hz
        have hz2 := c_bz_iff hz
        exact va_put (ty := .boolean) hx hb hts F1 ty0 F6 F7 hown hK hP (c_D_of hin) hS k he hc t F2 F3 (fun _ h9 => by rw [F4] at h9; exact h9) hj.2 (by rw [hj.1]; decide +kernel) (by rcases hz2 with rfl | rfl <;> rfl) (by rcases hz2 with rfl | rfl <;> rfl) (by rw [c_wf_len]; exact c_nth_lt hn) hdg (fun H1 locs1 hP1 _ hS1 => hKK _ _ _ _ _ _ _ h hl (by rw [hup _ hn (by omega)]; exact hP1) hS1)
      · cases h
    · rw [hn] at h; cases h
  | iaload =>
    dsimp only [c_len] at hck h hcs
    obtain ⟨⟨rfl, hdg⟩, -⟩ := hck
    replace h := iv_p1 h
    obtain ⟨v, r, rfl, h⟩ := h
    replace h := iv_isI h
    obtain ⟨y, rfl, h⟩ := h
    replace h := iv_p1 h
    obtain ⟨v, r, rfl, h⟩ := h
    replace h := iv_isR h
    obtain ⟨k, rfl, h⟩ := h
    replace h := iv_arr h
    obtain ⟨ty, n, hty, h⟩ := h
    cases ty <;> first | (cases h; done) | skip
    replace h := iv_rg h
    obtain ⟨hir, h⟩ := h
    have he : (c_wld a cA σ)[k]? = some (a k, c_we a cA σ k (.inr (.int, n))) := by rw [c_wld_get, hty]; rfl
    obtain ⟨t0, ht0⟩ := c_tys_get (cA := cA) hty
    exact va_iald hx hb hK hP k t0 he ht0 hir hdg (hKK _ _ _ _ _ _ _ h hl hP hS)
  | caload =>
    dsimp only [c_len] at hck h hcs
    obtain ⟨⟨rfl, hdg⟩, -⟩ := hck
    replace h := iv_p1 h
    obtain ⟨v, r, rfl, h⟩ := h
    replace h := iv_isI h
    obtain ⟨y, rfl, h⟩ := h
    replace h := iv_p1 h
    obtain ⟨v, r, rfl, h⟩ := h
    replace h := iv_isR h
    obtain ⟨k, rfl, h⟩ := h
    replace h := iv_arr h
    obtain ⟨ty, n, hty, h⟩ := h
    cases ty <;> first | (cases h; done) | skip
    replace h := iv_rg h
    obtain ⟨hir, h⟩ := h
    have he : (c_wld a cA σ)[k]? = some (a k, c_we a cA σ k (.inr (.char, n))) := by rw [c_wld_get, hty]; rfl
    obtain ⟨t0, ht0⟩ := c_tys_get (cA := cA) hty
    exact va_cald hx hb hK hP k t0 he ht0 hir hdg (hKK _ _ _ _ _ _ _ h hl hP hS)
  | baload =>
    dsimp only [c_len] at hck h hcs
    obtain ⟨⟨rfl, hdg⟩, -⟩ := hck
    replace h := iv_p1 h
    obtain ⟨v, r, rfl, h⟩ := h
    replace h := iv_isI h
    obtain ⟨y, rfl, h⟩ := h
    replace h := iv_p1 h
    obtain ⟨v, r, rfl, h⟩ := h
    replace h := iv_isR h
    obtain ⟨k, rfl, h⟩ := h
    replace h := iv_arr h
    obtain ⟨ty, n, hty, h⟩ := h
    cases ty <;> first | (cases h; done) | skip
    replace h := iv_rg h
    obtain ⟨hir, h⟩ := h
    have he : (c_wld a cA σ)[k]? = some (a k, c_we a cA σ k (.inr (.boolean, n))) := by rw [c_wld_get, hty]; rfl
    obtain ⟨t0, ht0⟩ := c_tys_get (cA := cA) hty
    exact va_zald hx hb hK hP k t0 he ht0 hir hdg (hKK _ _ _ _ _ _ _ h hl hP hS)
  | laload =>
    dsimp only [c_len] at hck h hcs
    obtain ⟨⟨rfl, hdg⟩, -⟩ := hck
    replace h := iv_p1 h
    obtain ⟨v, r, rfl, h⟩ := h
    replace h := iv_isI h
    obtain ⟨y, rfl, h⟩ := h
    replace h := iv_p1 h
    obtain ⟨v, r, rfl, h⟩ := h
    replace h := iv_isR h
    obtain ⟨k, rfl, h⟩ := h
    replace h := iv_arr h
    obtain ⟨ty, n, hty, h⟩ := h
    cases ty <;> first | (cases h; done) | skip
    replace h := iv_rg h
    obtain ⟨hir, h⟩ := h
    have he : (c_wld a cA σ)[k]? = some (a k, c_we a cA σ k (.inr (.long, n))) := by rw [c_wld_get, hty]; rfl
    obtain ⟨t0, ht0⟩ := c_tys_get (cA := cA) hty
    exact va_lald hx hb hK hP k t0 he ht0 hir hdg (hKK _ _ _ _ _ _ _ h hl hP hS)
  | iastore =>
    dsimp only [c_len] at hck h hcs
    obtain ⟨⟨rfl, hdg⟩, -⟩ := hck
    replace h := iv_p1 h
    obtain ⟨v, r, rfl, h⟩ := h
    replace h := iv_isI h
    obtain ⟨z, rfl, h⟩ := h
    replace h := iv_p1 h
    obtain ⟨v, r, rfl, h⟩ := h
    replace h := iv_isI h
    obtain ⟨y, rfl, h⟩ := h
    replace h := iv_p1 h
    obtain ⟨v, r, rfl, h⟩ := h
    replace h := iv_isR h
    obtain ⟨k, rfl, h⟩ := h
    replace h := iv_arr h
    obtain ⟨ty, n, hty, h⟩ := h
    cases ty <;> first | (cases h; done) | skip
    replace h := iv_rg h
    obtain ⟨hir, h⟩ := h
    have he : (c_wld a cA σ)[k]? = some (a k, c_we a cA σ k (.inr (.int, n))) := by rw [c_wld_get, hty]; rfl
    have hup := c_wld_upd (a := a) (cA := cA) (σ := σ) (σ' := c_put σ k y.toNatClampNeg z) (fun i hi => c_put_ne hi) (fun i _ => rfl) hty
    simp only [c_we, c_put_eq] at hup
    obtain ⟨t0, ht0⟩ := c_tys_get (cA := cA) hty
    exact va_iast hx hb hK hP (c_D_of hin) hS k t0 he ht0 hir hdg (fun H1 locs1 hP1 _ hS1 => hKK _ _ _ _ _ _ _ h hl (by rw [hup]; exact hP1) hS1)
  | castore =>
    dsimp only [c_len] at hck h hcs
    obtain ⟨⟨rfl, hdg⟩, -⟩ := hck
    replace h := iv_p1 h
    obtain ⟨v, r, rfl, h⟩ := h
    replace h := iv_isI h
    obtain ⟨z, rfl, h⟩ := h
    replace h := iv_p1 h
    obtain ⟨v, r, rfl, h⟩ := h
    replace h := iv_isI h
    obtain ⟨y, rfl, h⟩ := h
    replace h := iv_p1 h
    obtain ⟨v, r, rfl, h⟩ := h
    replace h := iv_isR h
    obtain ⟨k, rfl, h⟩ := h
    replace h := iv_arr h
    obtain ⟨ty, n, hty, h⟩ := h
    cases ty <;> first | (cases h; done) | skip
    replace h := iv_rg h
    obtain ⟨hir, h⟩ := h
    have he : (c_wld a cA σ)[k]? = some (a k, c_we a cA σ k (.inr (.char, n))) := by rw [c_wld_get, hty]; rfl
    have hup := c_wld_upd (a := a) (cA := cA) (σ := σ) (σ' := c_put σ k y.toNatClampNeg (vp_nar .char z)) (fun i hi => c_put_ne hi) (fun i _ => rfl) hty
    simp only [c_we, c_put_eq] at hup
    obtain ⟨t0, ht0⟩ := c_tys_get (cA := cA) hty
    exact va_cast hx hb hK hP (c_D_of hin) hS k t0 he ht0 hir hdg (fun H1 locs1 hP1 _ hS1 => hKK _ _ _ _ _ _ _ h hl (by rw [hup]; exact hP1) hS1)
  | bastore =>
    dsimp only [c_len] at hck h hcs
    obtain ⟨⟨rfl, hdg⟩, -⟩ := hck
    replace h := iv_p1 h
    obtain ⟨v, r, rfl, h⟩ := h
    replace h := iv_isI h
    obtain ⟨z, rfl, h⟩ := h
    replace h := iv_p1 h
    obtain ⟨v, r, rfl, h⟩ := h
    replace h := iv_isI h
    obtain ⟨y, rfl, h⟩ := h
    replace h := iv_p1 h
    obtain ⟨v, r, rfl, h⟩ := h
    replace h := iv_isR h
    obtain ⟨k, rfl, h⟩ := h
    replace h := iv_arr h
    obtain ⟨ty, n, hty, h⟩ := h
    cases ty <;> first | (cases h; done) | skip
    replace h := iv_rg h
    obtain ⟨hir, h⟩ := h
    have he : (c_wld a cA σ)[k]? = some (a k, c_we a cA σ k (.inr (.boolean, n))) := by rw [c_wld_get, hty]; rfl
    have hup := c_wld_upd (a := a) (cA := cA) (σ := σ) (σ' := c_put σ k y.toNatClampNeg (vp_nar .boolean z)) (fun i hi => c_put_ne hi) (fun i _ => rfl) hty
    simp only [c_we, c_put_eq] at hup
    obtain ⟨t0, ht0⟩ := c_tys_get (cA := cA) hty
    exact va_zast hx hb hK hP (c_D_of hin) hS k t0 he ht0 hir hdg (fun H1 locs1 hP1 _ hS1 => hKK _ _ _ _ _ _ _ h hl (by rw [hup]; exact hP1) hS1)
  | lastore =>
    dsimp only [c_len] at hck h hcs
    obtain ⟨⟨rfl, hdg⟩, -⟩ := hck
    replace h := iv_p1 h
    obtain ⟨v, r, rfl, h⟩ := h
    replace h := iv_isL h
    obtain ⟨z, rfl, h⟩ := h
    replace h := iv_p1 h
    obtain ⟨v, r, rfl, h⟩ := h
    replace h := iv_isI h
    obtain ⟨y, rfl, h⟩ := h
    replace h := iv_p1 h
    obtain ⟨v, r, rfl, h⟩ := h
    replace h := iv_isR h
    obtain ⟨k, rfl, h⟩ := h
    replace h := iv_arr h
    obtain ⟨ty, n, hty, h⟩ := h
    cases ty <;> first | (cases h; done) | skip
    replace h := iv_rg h
    obtain ⟨hir, h⟩ := h
    have he : (c_wld a cA σ)[k]? = some (a k, c_we a cA σ k (.inr (.long, n))) := by rw [c_wld_get, hty]; rfl
    have hup := c_wld_upd (a := a) (cA := cA) (σ := σ) (σ' := c_putL σ k y.toNatClampNeg z) (fun i _ => rfl) (fun i hi => c_putL_ne hi) hty
    simp only [c_we, c_putL_eq] at hup
    obtain ⟨t0, ht0⟩ := c_tys_get (cA := cA) hty
    exact va_last hx hb hK hP (c_D_of hin) hS k t0 he ht0 hir hdg (fun H1 locs1 hP1 _ hS1 => hKK _ _ _ _ _ _ _ h hl (by rw [hup]; exact hP1) hS1)
  | arraylength =>
    dsimp only [c_len] at hck h hcs
    obtain ⟨⟨rfl, hdg⟩, -⟩ := hck
    replace h := iv_p1 h
    obtain ⟨v, r, rfl, h⟩ := h
    replace h := iv_isR h
    obtain ⟨k, rfl, h⟩ := h
    replace h := iv_arr h
    obtain ⟨ty, n, hty, h⟩ := h
    have he : (c_wld a cA σ)[k]? = some (a k, c_we a cA σ k (.inr (ty, n))) := by rw [c_wld_get, hty]; rfl
    have hkt := k_ct _ (c_nth_mem hty)
    simp only [ck_ct, decide_eq_true_eq] at hkt
    obtain ⟨t0, ht0⟩ := c_tys_get (cA := cA) hty
    exact va_alen hx hb hK hP k t0 he ht0 rfl hdg (hKK _ _ _ _ _ _ _ h hl hP hS)
  | invokevirtual i =>
    dsimp only [c_len] at hck h hcs
    obtain ⟨⟨rfl, hdg⟩, hck⟩ := hck
    exact c_stepV hx hb hml hown hts hnw hK hin hC hck hdg h (fun st' σ' H' locs' h2 hP2 hS2 => hKK _ _ _ _ _ _ _ h2 hl hP2 hS2) hl hP hS
  | invokestatic i =>
    dsimp only [c_len] at hck h hcs
    obtain ⟨⟨rfl, hdg⟩, hck⟩ := hck
    cases w with
    | zero => exact c_stepS hx hb hml hown hts hnw hK hin hC hck hdg h (fun st' σ' H' locs' h2 hP2 hS2 => hKK _ _ _ _ _ _ _ h2 hl hP2 hS2) hl hP hS
    | succ w =>
      replace h := iv_p1 h
      obtain ⟨v, r, rfl, h⟩ := h
      replace h := iv_isI h
      obtain ⟨y, rfl, h⟩ := h
      replace h := iv_p1 h
      obtain ⟨v, r, rfl, h⟩ := h
      replace h := iv_isI h
      obtain ⟨z, rfl, h⟩ := h
      cases hbl : Nat.ble (c_sum r) 8
      · rw [hbl] at h; cases h
      · rw [hbl] at h
        obtain ⟨rfl, rfl⟩ := of_decide_eq_true hck
        have hle : c_sum r ≤ 8 := Nat.le_of_ble_eq_true hbl
        refine va_mmin hx hb (by rw [hml]; exact hl.1.symm) hown (hts _ (lw_g_of c_min1 rfl)) (hts _ (lw_g_of c_min2 rfl)) (hts _ (lw_g_of c_min3 rfl)) (hts _ (lw_g_of c_min4 rfl)) (show 1 ≤ d + 1 by omega) ?_ (Nat.zero_le _) (Nat.zero_le _) hdg (hKK _ _ _ _ _ _ _ h hl hP hS)
        rw [c_sum_eq]
        show c_sum r + 13 ≤ 45 * (d + 1)
        omega
  | ireturn =>
    dsimp only [c_len] at hck h hcs
    obtain ⟨⟨rfl, hdg⟩, -⟩ := hck
    replace h := iv_p1 h
    obtain ⟨v, r, rfl, h⟩ := h
    replace h := iv_isI h
    obtain ⟨y, rfl, h⟩ := h
    cases r with
    | cons _ _ => cases h
    | nil =>
      rcases rb with _ | _ | _ | rb
      · cases h
      · cases h
        exact W.iret hx hb hrt (fun t ht _ => ⟨⟨y, (), rfl, rfl, show va_P D d_CL (c_wld a cA σ) t.heap by rw [ht]; exact hP⟩, hS.F ht⟩) hS.2.2 hdg
      · have h2 : (if c_bz y = true then some (σ, y) else none) = some x := h
        clear h
        split at h2
        · rename_i hz
          have hz2 := c_bz_iff hz
          cases h2
          exact W.zret (ty := .boolean) hx hb hrt (by rcases hz2 with rfl | rfl <;> rfl) (fun t ht _ => ⟨⟨y, (), rfl, rfl, show va_P D d_CL (c_wld a cA σ) t.heap by rw [ht]; exact hP⟩, hS.F ht⟩) hS.2.2 hdg
        · cases h2
      · cases h
  | return_ =>
    dsimp only [c_len] at hck h hcs
    obtain ⟨⟨rfl, hdg⟩, -⟩ := hck
    cases st with
    | cons _ _ => cases h
    | nil =>
      cases rb with
      | succ _ => cases h
      | zero =>
        cases h
        exact W.vret hx hb hrt (fun t ht _ => ⟨⟨(), rfl, trivial, show va_P D d_CL (c_wld a cA σ) t.heap by rw [ht]; exact hP⟩, hS.F ht⟩) hS.2.2 hdg
  | _ => cases h
end SS
