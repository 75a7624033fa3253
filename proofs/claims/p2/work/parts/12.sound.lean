/-! all methods: what the small machine answers, the real one answers -/
def c_nxi (i : Nat) (v : c_V) : Nat := match v with
  | .inl _ => i + 1
  | .inr (.inl _) => i + 2
  | .inr (.inr _) => i + 1
def c_ag : Nat → List c_V → c_L
  | _, [] => []
  | i, v :: vs => (i, v) :: c_ag (c_nxi i v) vs
noncomputable def c_M : Nat → c_C
  | 0, _, _, _ => none
  | d + 1, t, as, σ => match c_nth d_M t with
    | none => none
    | some q => match Nat.ble (c_sum as) q.2.2.2.2.2.2.1 with
      | true => c_run d_CT q.1 q.2.1 q.2.2.1 (c_M d) 0 (c_nr q.2.1 0 (c_ag 0 as)) [] σ
      | false => none
theorem c_ag_eq {a : Nat → Nat} : ∀ (as : List c_V) (i : Nat), lv_args i (as.map (dv a)) = c_dl a (c_ag i as)
  | [], _ => rfl
  | v :: as, i => by
    have hi : (if (dv a v).category = 2 then i + 2 else i + 1) = c_nxi i v := by
      rcases v with v | v | v <;> rfl
    simp only [List.map_cons, lv_args, c_ag, c_dl]
    rw [hi, c_ag_eq as]
    rfl
theorem c_sl_len {a : Nat → Nat} : ∀ as : List c_V, (lg_sl (as.map (dv a))).length = c_sum as
  | [] => rfl
  | v :: as => by
    have h := c_sl_len (a := a) as
    unfold lg_sl at h ⊢
    rw [List.map_cons, List.flatMap_cons, List.length_append, h, c_sum]
    congr 1
    rcases v with v | v | v <;> rfl
section SW
variable {p : Program} {l : Launch} {e : Env} {s : State} {m : MethodId} {args : Array Value} {below : List Frame} {meth : Method} {c : Code} {cc : ByteArray} {d nL ow rb : Nat} {a : Nat → Nat} {cA : Nat → ClassId} {D : va_G} {x : c_S × Int32} {C : c_C} {T : List (Nat × c_E)} {L : List (Nat × List Nat)}
theorem c_goW (hx : p.tables.exec = Jvm.exec) (hb : c.code = cc) (hml : c.maxLocals = nL) (hown : s.vm.findClass (d_nm ow) = some m.cls) (hts : ∀ w ∈ lw_g, w.before args s = true) (hnw : c_NW s) (hK : va_K D d_CL (c_tys cA) s) (hin : c_inj a) (hlk : meth.locks = false) (hrt : meth.sig.returnType = c_rt rb)
    (hC : ∀ t as τ y, C t as τ = some y → c_Con l a cA D d t as τ y) (hT : ∀ r ∈ T, ck_e ow cc r = true) (hT2 : ∀ r ∈ T, ck_s nL r = true) :
    ∀ (n pc : Nat) (lv : c_L) (st : List c_V) (σ : c_S) (H : Heap) (locs : List Loc) (ls : Array Slot), c_go d_CT T L rb C n pc lv st σ = some x → lv_has ls nL (c_dl a lv) → va_P D d_CL (c_wld a cA σ) H → va_S (c_A a s.heap.size) s.heap H locs → W p l e (c_rm (d + 1)) s m args below meth c H locs 0 0 (MQ below (c_Q a cA D (c_A a s.heap.size) rb x) args s 0 0 (c_A a s.heap.size)) (F0 m pc ls (st.map (dv a)))
  | 0, _, _, _, _, _, _, _, h, _, _, _ => by cases h
  | n + 1, pc, lv, st, σ, H, locs, ls, h, hl, hP, hS => by
    rw [c_go] at h
    cases he : c_lk T pc with
    | none => rw [he] at h; cases h
    | some E =>
      rw [he] at h
      dsimp only at h
      exact c_step hx hb hml hown hts hnw hK hin hlk hrt hC (hT _ (c_lk_mem he)) (hT2 _ (c_lk_mem he)) h (fun pc' lv' st' σ' H' locs' ls' h' hl' hP' hS' => c_goW hx hb hml hown hts hnw hK hin hlk hrt hC hT hT2 n pc' _ st' σ' H' locs' ls' h' (c_nr_has hl') hP' hS') hl hP hS
end SW
theorem c_sound (l : Launch) (a : Nat → Nat) (cA : Nat → ClassId) (D : va_G) (hin : c_inj a) : ∀ (d t : Nat) (as : List c_V) (σ : c_S) (x : c_S × Int32), c_M d t as σ = some x → c_Con l a cA D d t as σ x
  | 0, _, _, _, _, h => by cases h
  | d + 1, t, as, σ, x, h => by
    rw [c_M] at h
    cases hq : c_nth d_M t with
    | none => rw [hq] at h; cases h
    | some q =>
      rw [hq] at h
      dsimp only at h
      have hok := o_all q (c_nth_mem hq)
      have hks := k_s q (c_nth_mem hq)
      obtain ⟨T, L, rb, ow, y, cc, mx, ret⟩ := q
      obtain ⟨hT, hcode, hpl, hcls, hret, -, -, -, -⟩ := hok
      dsimp only at h hT hcode hpl hcls hret hks
      cases hbl : Nat.ble (c_sum as) mx with
      | false => rw [hbl] at h; cases h
      | true =>
        rw [hbl] at h
        dsimp only at h
        have hle : c_sum as ≤ mx := Nat.le_of_ble_eq_true hbl
        obtain ⟨n, hn⟩ := c_run_iff.mp h
        refine ⟨_, hq, fun sz => ?_⟩
        dsimp only
        refine Met.ofW (cc := cc) (maxL := mx) (ret := ret) hpl rfl ?_
        intro p e s m args below meth c s₁ B hml hv
        obtain ⟨rfl, rfl, hP, hK, hnw⟩ := hv
        have hts : ∀ w ∈ Cond.code y cc mx ret :: lw_g, w.before (as.map (dv a)).toArray s = true := atoms_spec (ws := Cond.code y cc mx ret :: lw_g) B.pre
        have hown : s.vm.findClass (d_nm ow) = some m.cls := by rw [← hcls]; exact findClass_of_methodNamed B.named
        have hrt : meth.sig.returnType = c_rt rb := by
          rw [B.returns]
          rcases hret with ⟨rfl, rfl⟩ | ⟨rfl, rfl⟩ | ⟨rfl, rfl⟩ <;> rfl
        have hl := lv_entry (as.map (dv a)) (n := mx) (by rw [c_sl_len]; exact hle)
        rw [lg_entry_eq]
        generalize (lg_sl (as.map (dv a)) ++ List.replicate (mx - (lg_sl (as.map (dv a))).length) Slot.unset).toArray = ls at hl ⊢
        rw [c_ag_eq] at hl
        exact c_goW B.exec B.bytes hml hown (fun w hw => hts w (List.mem_cons_of_mem _ hw)) hnw hK hin B.notSynchronized hrt (c_sound l a cA D hin d) hT hks n 0 _ [] σ s.heap [] ls hn (c_nr_has hl) hP va_S.rf
