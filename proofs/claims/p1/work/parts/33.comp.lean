/-! runs that can be computed: with a clock on each method's run -/
theorem cl_bd {o o' : c_R} {f : c_S → Int32 → c_R} {x : c_S × Int32} (h : c_bd o f = some x) (ho : ∀ y, o = some y → o' = some y) : c_bd o' f = some x := by
  rcases o with _ | y
  · cases h
  · rw [ho y rfl]; exact h
theorem cl_call {CT : List c_D} {vir : Bool} {C C' : c_C} (hC : ∀ t as σ y, C t as σ = some y → C' t as σ = some y) {ax : c_V} {t u w : Nat} {st : List c_V} {σ : c_S} {f : List c_V → c_S → c_R} {x : c_S × Int32} (h : c_call CT vir C ax t u w st σ f = some x) : c_call CT vir C' ax t u w st σ f = some x := by
  unfold c_call at h ⊢
  rcases ax with a | a | a
  · cases h
  · cases h
  · simp only [c_isR] at h ⊢
    revert h
    generalize c_pop a [] st = o
    intro h
    rcases o with _ | ⟨as, r⟩
    · cases h
    · dsimp only at h ⊢
      revert h
      generalize Nat.ble (c_sum r) 8 = bb
      intro h
      cases bb
      · cases h
      · dsimp only at h ⊢
        cases vir
        · cases u
          · exact cl_bd h (hC t as σ)
          · exact cl_bd h (hC t as σ)
        · rcases as with _ | ⟨v, as⟩
          · cases h
          · rcases v with v | v | v
            · cases h
            · cases h
            · simp only [c_p1, c_obj] at h ⊢
              revert h
              generalize c_nth CT v = oo
              intro h
              rcases oo with _ | ⟨⟨ci, sl⟩⟩ | _
              · cases h
              · dsimp only at h ⊢
                revert h
                generalize Nat.beq ci w = b2
                intro h
                cases b2
                · cases h
                · dsimp only at h ⊢
                  cases u
                  · exact cl_bd h (hC t _ σ)
                  · exact cl_bd h (hC t _ σ)
              · cases h
set_option maxHeartbeats 4000000 in
theorem cl_s1 {CT : List c_D} {C C' : c_C} (hC : ∀ t as σ y, C t as σ = some y → C' t as σ = some y) {e : c_E} {rb : Nat} {lv : c_L} {st : List c_V} {σ : c_S} {K : c_K} {x : c_S × Int32} (h : c_s1 CT e rb C lv st σ K = some x) : c_s1 CT e rb C' lv st σ K = some x := by
  obtain ⟨ins, nx, ax, t, u, w, sw⟩ := e
  unfold c_s1 at h ⊢
  cases ins <;> first
    | exact h
    | exact cl_call hC h
    | (cases w with
       | zero => exact cl_call hC h
       | succ w => exact h)
theorem cl_go {CT : List c_D} {T : List (Nat × c_E)} {L : List (Nat × List Nat)} {rb : Nat} {C C' : c_C} (hC : ∀ t as σ y, C t as σ = some y → C' t as σ = some y) : ∀ (n pc : Nat) (lv : c_L) (st : List c_V) (σ : c_S) (x : c_S × Int32), c_go CT T L rb C n pc lv st σ = some x → c_go CT T L rb C' n pc lv st σ = some x
  | 0, _, _, _, _, _, h => by simp [c_go] at h
  | n + 1, pc, lv, st, σ, x, h => by
    rw [c_go] at h ⊢
    cases he : c_lk T pc with
    | none => simp [he] at h
    | some e =>
      simp only [he] at h ⊢
      have h := cl_s1 hC h
      rcases ct_s1 CT e rb C' lv st σ with h1 | ⟨y, h1⟩ | ⟨pc1, lv1, st1, σ1, h1⟩
      · rw [h1] at h; cases h
      · rw [h1] at h ⊢; exact h
      · rw [h1] at h ⊢; exact cl_go hC n _ _ _ _ _ h
def c_N (n : Nat) : Nat → c_C
  | 0, _, _, _ => none
  | d + 1, t, as, σ => match c_nth d_M t with
    | none => none
    | some q => match Nat.ble (c_sum as) q.2.2.2.2.2.2.1 with
      | true => c_go d_CT q.1 q.2.1 q.2.2.1 (c_N n d) n 0 (c_nr q.2.1 0 (c_ag 0 as)) [] σ
      | false => none
theorem c_N_M (n : Nat) : ∀ (d D t : Nat) (as : List c_V) (σ : c_S) (x : c_S × Int32), d ≤ D → c_N n d t as σ = some x → c_M D t as σ = some x
  | 0, _, _, _, _, _, _, h => by cases h
  | d + 1, 0, _, _, _, _, hd, _ => absurd hd (by omega)
  | d + 1, D + 1, t, as, σ, x, hd, h => by
    rw [c_N] at h
    rw [c_M]
    cases hq : c_nth d_M t with
    | none => rw [hq] at h; cases h
    | some q =>
      rw [hq] at h
      dsimp only at h ⊢
      cases hb : Nat.ble (c_sum as) q.2.2.2.2.2.2.1
      · rw [hb] at h; cases h
      · rw [hb] at h
        dsimp only at h ⊢
        exact c_run_iff.mpr ⟨n, cl_go (fun t as σ y hy => c_N_M n d D t as σ y (by omega) hy) n _ _ _ _ _ h⟩
def p1_chk (tx tm : Nat) : Bool := match c_N 1000 12 tx [v_r 0] d_S0 with
  | some (σ1, r) => match c_N 1000 12 tm [v_r 34] σ1 with
    | some (_, r') => decide (r = r')
    | none => false
  | none => false
theorem p1_of {tx tm : Nat} (h : p1_chk tx tm = true) : ∃ σ1 σ2 r, c_M 1500 tx [v_r 0] d_S0 = some (σ1, r) ∧ c_M 1500 tm [v_r 34] σ1 = some (σ2, r) := by
  unfold p1_chk at h
  cases h1 : c_N 1000 12 tx [v_r 0] d_S0 with
  | none => rw [h1] at h; cases h
  | some x1 =>
    obtain ⟨σ1, r⟩ := x1
    rw [h1] at h
    dsimp only at h
    cases h2 : c_N 1000 12 tm [v_r 34] σ1 with
    | none => rw [h2] at h; cases h
    | some x2 =>
      obtain ⟨σ2, r'⟩ := x2
      rw [h2] at h
      have hr : r = r' := of_decide_eq_true h
      subst hr
      exact ⟨σ1, σ2, r, c_N_M 1000 12 1500 _ _ _ _ (by decide) h1, c_N_M 1000 12 1500 _ _ _ _ (by decide) h2⟩
