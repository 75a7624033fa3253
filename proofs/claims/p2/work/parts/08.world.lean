/-! the real heap's picture of a state of numbers; locals; what a contract says -/
def dv (a : Nat → Nat) : c_V → Value
  | .inl x => .int x
  | .inr (.inl x) => .long x
  | .inr (.inr k) => .ref (a k)
def c_dl (a : Nat → Nat) (l : c_L) : List (Nat × Value) := l.map (fun q => (q.1, dv a q.2))
def c_wf (a : Nat → Nat) (f : Nat → Int32) : Nat → List Nat → List Value
  | _, [] => []
  | j, n :: t => (match n with
    | n + 2 => Value.ref (a n)
    | _ => Value.int (f j)) :: c_wf a f (j + 1) t
def c_we (a : Nat → Nat) (cA : Nat → ClassId) (σ : c_S) (k : Nat) : c_D → va_E
  | .inl (ci, sl) => .inr (ci, c_wf a (σ.1 k) 0 sl)
  | .inr (ty, n) => .inl (cA k, n, if ty = .long then .inr (.inl (σ.2 k)) else .inl (σ.1 k))
def c_wl (a : Nat → Nat) (cA : Nat → ClassId) (σ : c_S) : Nat → List c_D → va_W
  | _, [] => []
  | k, q :: t => (a k, c_we a cA σ k q) :: c_wl a cA σ (k + 1) t
abbrev c_wld (a : Nat → Nat) (cA : Nat → ClassId) (σ : c_S) : va_W := c_wl a cA σ 0 d_CT
def c_tl (cA : Nat → ClassId) : Nat → List c_D → List (ClassId × FieldType)
  | _, [] => []
  | k, .inl _ :: t => c_tl cA (k + 1) t
  | k, .inr (ty, _) :: t => (cA k, ty) :: c_tl cA (k + 1) t
def c_tys (cA : Nat → ClassId) : List (ClassId × FieldType) := c_tl cA 0 d_CT
def c_isN (w : Cond) : Bool := match w with
  | .methodLinkNest _ _ _ _ => true
  | _ => false
def c_NW (U : State) : Prop := ∀ w ∈ lw_tbl, c_isN w = true → va_Nw w U
def c_A (a : Nat → Nat) (sz : Nat) : Nat → Prop := fun q => (∃ k, k < 70 ∧ q = a k) ∨ sz ≤ q
def c_inj (a : Nat → Nat) : Prop := ∀ i j, i < 70 → j < 70 → a i = a j → i = j
def c_rm (d : Nat) : Room := { frames := d, cells := 0, slots := 0, locals := 45 * d }
def c_rt (rb : Nat) : Option FieldType := match rb with
  | 0 => none
  | 1 => some .int
  | _ + 2 => some .boolean
def c_Pc (a : Nat → Nat) (cA : Nat → ClassId) (D : va_G) (sz : Nat) (as : List c_V) (σ : c_S) : Array Value → State → Prop :=
  va_Pc (as.map (dv a)) (fun U => U.heap.size = sz ∧ va_P D d_CL (c_wld a cA σ) U.heap ∧ va_K D d_CL (c_tys cA) U ∧ c_NW U)
def c_Q (a : Nat → Nat) (cA : Nat → ClassId) (D : va_G) (A : Nat → Prop) (rb : Nat) (x : c_S × Int32) : Array Value → State → Outcome → State → Prop := match rb with
  | 0 => va_Qv (S := Unit) (fun _ => True) (fun _ t => va_P D d_CL (c_wld a cA x.1) t.heap) A
  | _ + 1 => va_Qi (S := Unit) (fun r _ => r = x.2) (fun _ t => va_P D d_CL (c_wld a cA x.1) t.heap) A
def c_Con (l : Launch) (a : Nat → Nat) (cA : Nat → ClassId) (D : va_G) (d t : Nat) (as : List c_V) (σ : c_S) (x : c_S × Int32) : Prop :=
  ∃ q : c_M0, c_nth d_M t = some q ∧ ∀ sz : Nat, Met l q.2.2.2.2.1 (Cond.code q.2.2.2.2.1 q.2.2.2.2.2.1 q.2.2.2.2.2.2.1 q.2.2.2.2.2.2.2 :: lw_g) (c_rm d) (c_Pc a cA D sz as σ) (c_Q a cA D (c_A a sz) q.2.2.1 x) 0 0 (c_A a sz)
section WW
variable {a : Nat → Nat} {cA : Nat → ClassId} {σ σ' : c_S}
theorem c_wl_get : ∀ (l : List c_D) (k0 j : Nat), (c_wl a cA σ k0 l)[j]? = (c_nth l j).map (fun q => (a (k0 + j), c_we a cA σ (k0 + j) q))
  | [], _, _ => by simp [c_wl, c_nth]
  | q :: t, k0, 0 => by simp [c_wl, c_nth]
  | q :: t, k0, j + 1 => by
    simp only [c_wl, c_nth, List.getElem?_cons_succ]
    rw [c_wl_get t (k0 + 1) j, show k0 + 1 + j = k0 + (j + 1) by omega]
theorem c_wld_get (j : Nat) : (c_wld a cA σ)[j]? = (c_nth d_CT j).map (fun q => (a j, c_we a cA σ j q)) := by
  rw [c_wl_get]; simp
theorem c_wf_get {f : Nat → Int32} : ∀ (sl : List Nat) (j0 t : Nat), (c_wf a f j0 sl)[t]? = (c_nth sl t).map (fun n => match n with
    | n + 2 => Value.ref (a n)
    | _ => Value.int (f (j0 + t)))
  | [], _, _ => by simp [c_wf, c_nth]
  | n :: sl, j0, 0 => by simp [c_wf, c_nth]
  | n :: sl, j0, t + 1 => by
    simp only [c_wf, c_nth, List.getElem?_cons_succ]
    rw [c_wf_get sl (j0 + 1) t, show j0 + 1 + t = j0 + (t + 1) by omega]
theorem c_wf_len {f : Nat → Int32} : ∀ (sl : List Nat) (j0 : Nat), (c_wf a f j0 sl).length = sl.length
  | [], _ => rfl
  | n :: sl, j0 => by simp [c_wf, c_wf_len sl]
theorem c_nth_lt {α : Type} : ∀ {l : List α} {i : Nat} {x : α}, c_nth l i = some x → i < l.length
  | [], _, _, h => by simp [c_nth] at h
  | _ :: _, 0, _, _ => by simp
  | _ :: t, i + 1, _, h => by
    have := c_nth_lt (l := t) (i := i) h
    simp only [List.length_cons]; omega
theorem c_nth_eq {α : Type} : ∀ (l : List α) (i : Nat), c_nth l i = l[i]?
  | [], _ => by simp [c_nth]
  | _ :: _, 0 => by simp [c_nth]
  | _ :: t, i + 1 => by simp [c_nth, c_nth_eq t i]
theorem c_nth_mem {α : Type} {l : List α} {i : Nat} {x : α} (h : c_nth l i = some x) : x ∈ l := by
  rw [c_nth_eq] at h; exact List.mem_of_getElem? h
theorem c_tl_mem {ty : FieldType} {n : Nat} : ∀ (l : List c_D) (k0 j : Nat), c_nth l j = some (.inr (ty, n)) → (cA (k0 + j), ty) ∈ c_tl cA k0 l
  | [], _, _, h => by simp [c_nth] at h
  | q :: t, k0, 0, h => by
    simp only [c_nth, Option.some.injEq] at h
    subst h
    simp [c_tl]
  | q :: t, k0, j + 1, h => by
    have h1 := c_tl_mem t (k0 + 1) j h
    rw [show k0 + 1 + j = k0 + (j + 1) by omega] at h1
    rcases q with q | ⟨ty', n'⟩
    · simpa only [c_tl] using h1
    · simp only [c_tl]; exact List.mem_cons_of_mem _ h1
theorem c_tys_get {ty : FieldType} {n k : Nat} (h : c_nth d_CT k = some (.inr (ty, n))) : ∃ t0 : Nat, (c_tys cA)[t0]? = some (cA k, ty) := by
  have h1 := c_tl_mem (cA := cA) d_CT 0 k h
  rw [Nat.zero_add] at h1
  exact List.getElem?_of_mem h1
theorem c_wf_set {f : Nat → Int32} {sl : List Nat} {t n : Nat} {x : Int32} (hn : c_nth sl t = some n) (h2 : n < 2) : c_wf a (upd f t x) 0 sl = (c_wf a f 0 sl).set t (.int x) := by
  apply List.ext_getElem?
  intro i
  rw [c_wf_get, List.getElem?_set, c_wf_get, c_wf_len]
  by_cases hi : t = i
  · subst hi
    rw [if_pos rfl, if_pos (c_nth_lt hn), hn]
    rcases n with _ | _ | n
    · simp [upd]
    · simp [upd]
    · omega
  · rw [if_neg hi]
    have hu : upd f t x (0 + i) = f (0 + i) := by simp [upd]; omega
    rw [hu]
theorem c_we_congr {k : Nat} (h1 : σ'.1 k = σ.1 k) (h2 : σ'.2 k = σ.2 k) (q : c_D) : c_we a cA σ' k q = c_we a cA σ k q := by
  rcases q with ⟨ci, sl⟩ | ⟨ty, n⟩ <;> simp only [c_we, h1, h2]
theorem c_wld_upd {k : Nat} {q : c_D} (h1 : ∀ i, i ≠ k → σ'.1 i = σ.1 i) (h2 : ∀ i, i ≠ k → σ'.2 i = σ.2 i) (hq : c_nth d_CT k = some q) : c_wld a cA σ' = (c_wld a cA σ).set k (a k, c_we a cA σ' k q) := by
  apply List.ext_getElem?
  intro i
  rw [c_wld_get, List.getElem?_set, c_wld_get]
  by_cases hi : k = i
  · subst hi
    have hlt : k < (c_wld a cA σ).length := by
      rcases Nat.lt_or_ge k (c_wld a cA σ).length with h | h
      · exact h
      · have := List.getElem?_eq_none h
        rw [c_wld_get, hq] at this
        cases this
    rw [if_pos rfl, if_pos hlt, hq]; rfl
  · rw [if_neg hi]
    rw [funext (f := fun q => (a i, c_we a cA σ' i q)) (fun q => by rw [c_we_congr (h1 i (Ne.symm hi)) (h2 i (Ne.symm hi)) q])]
theorem c_beq {i k : Nat} : Nat.beq i k = true ↔ i = k := by simp
theorem c_put_ne {k j i : Nat} {x : Int32} (h : i ≠ k) : (c_put σ k j x).1 i = σ.1 i := by
  have hb : Nat.beq i k = false := by
    cases hb : Nat.beq i k
    · rfl
    · exact absurd (c_beq.mp hb) h
  simp only [c_put, hb]
theorem c_put_eq {k j : Nat} {x : Int32} : (c_put σ k j x).1 k = upd (σ.1 k) j x := by
  have hb : Nat.beq k k = true := c_beq.mpr rfl
  simp only [c_put, hb]
theorem c_putL_ne {k j i : Nat} {x : Int64} (h : i ≠ k) : (c_putL σ k j x).2 i = σ.2 i := by
  have hb : Nat.beq i k = false := by
    cases hb : Nat.beq i k
    · rfl
    · exact absurd (c_beq.mp hb) h
  simp only [c_putL, hb]
theorem c_putL_eq {k j : Nat} {x : Int64} : (c_putL σ k j x).2 k = vp_updL (σ.2 k) j x := by
  have hb : Nat.beq k k = true := c_beq.mpr rfl
  simp only [c_putL, hb]
theorem d_CT_len : d_CT.length = 70 := by decide
theorem c_D_of {sz : Nat} (hi : c_inj a) : va_D (c_A a sz) (c_wld a cA σ) := by
  constructor
  · intro i j p q h1 h2 h3
    rw [c_wld_get] at h1 h2
    cases hq1 : c_nth d_CT i with
    | none => rw [hq1] at h1; cases h1
    | some q1 =>
      cases hq2 : c_nth d_CT j with
      | none => rw [hq2] at h2; cases h2
      | some q2 =>
        rw [hq1] at h1; rw [hq2] at h2
        cases h1; cases h2
        have l1 := c_nth_lt hq1
        have l2 := c_nth_lt hq2
        rw [d_CT_len] at l1 l2
        exact hi i j l1 l2 h3
  · intro k q h
    rw [c_wld_get] at h
    cases hq1 : c_nth d_CT k with
    | none => rw [hq1] at h; cases h
    | some q1 =>
      rw [hq1] at h; cases h
      have l1 := c_nth_lt hq1
      rw [d_CT_len] at l1
      exact Or.inl ⟨k, l1, rfl⟩
theorem c_lk_mem {α : Type} : ∀ {l : List (Nat × α)} {i : Nat} {v : α}, c_lk l i = some v → (i, v) ∈ l
  | [], _, _, h => by simp [c_lk] at h
  | (j, w) :: t, i, v, h => by
    rw [c_lk] at h
    cases hb : Nat.beq j i
    · rw [hb] at h; exact List.mem_cons_of_mem _ (c_lk_mem h)
    · rw [hb] at h; cases h
      rw [c_beq.mp hb]; exact List.mem_cons_self
theorem c_fil_mem {p : Nat → c_V → Bool} : ∀ {l : c_L} {q : Nat × c_V}, q ∈ c_fil p l → q ∈ l ∧ p q.1 q.2 = true
  | [], _, h => by cases h
  | (j, w) :: t, q, h => by
    rw [c_fil] at h
    cases hb : p j w
    · rw [hb] at h
      exact ⟨List.mem_cons_of_mem _ (c_fil_mem h).1, (c_fil_mem h).2⟩
    · rw [hb] at h
      rcases List.mem_cons.mp h with h | h
      · rw [h]; exact ⟨List.mem_cons_self, hb⟩
      · exact ⟨List.mem_cons_of_mem _ (c_fil_mem h).1, (c_fil_mem h).2⟩
theorem c_ins_mem {i : Nat} {v : c_V} : ∀ {l : c_L} {q : Nat × c_V}, q ∈ c_ins i v l → q = (i, v) ∨ q ∈ l
  | [], q, h => by rw [c_ins] at h; exact Or.inl (List.mem_singleton.mp h)
  | (j, w) :: t, q, h => by
    rw [c_ins] at h
    cases hb : Nat.ble i j
    · rw [hb] at h
      rcases List.mem_cons.mp h with h | h
      · exact Or.inr (h ▸ List.mem_cons_self)
      · rcases c_ins_mem h with h | h
        · exact Or.inl h
        · exact Or.inr (List.mem_cons_of_mem _ h)
    · rw [hb] at h
      exact List.mem_cons.mp h
theorem c_beqd (i k : Nat) : (i == k) = Nat.beq i k := by
  rw [Bool.eq_iff_iff]; simp
theorem c_cat_dv (w : c_V) : (dv a w).category = c_cat w := by rcases w with w | w | w <;> rfl
theorem lv_mono {ls : Array Slot} {nL : Nat} {l l' : List (Nat × Value)} (h : lv_has ls nL l) (hs : ∀ q ∈ l', q ∈ l) : lv_has ls nL l' := ⟨h.1, h.2.1, fun q hq => h.2.2 q (hs q hq)⟩
theorem c_at_has {ls : Array Slot} {nL i : Nat} {lv : c_L} {v : c_V} (h : lv_has ls nL (c_dl a lv)) (hk : c_lk lv i = some v) : ls[i]? = some (.val (dv a v)) :=
  h.2.2 (i, dv a v) (List.mem_map.mpr ⟨(i, v), c_lk_mem hk, rfl⟩)
theorem c_nr_has {ls : Array Slot} {nL pc : Nat} {lv : c_L} {L : List (Nat × List Nat)} (h : lv_has ls nL (c_dl a lv)) : lv_has ls nL (c_dl a (c_nr L pc lv)) := by
  refine lv_mono h ?_
  intro q hq
  obtain ⟨q0, h0, rfl⟩ := List.mem_map.mp hq
  refine List.mem_map.mpr ⟨q0, ?_, rfl⟩
  unfold c_nr at h0
  cases hL : c_lk L pc with
  | none => rw [hL] at h0; exact h0
  | some ks => rw [hL] at h0; exact (c_fil_mem h0).1
theorem c_st1_has {ls : Array Slot} {nL i : Nat} {lv : c_L} {v : c_V} {vv : Value} (hv : dv a v = vv) (h : lv_has ls nL ((i, vv) :: (c_dl a lv).filter (fun q => !(q.1 == i) && !(q.1 + 1 == i && q.2.category == 2)))) : lv_has ls nL (c_dl a (c_st1 i v lv)) := by
  subst hv
  refine lv_mono h ?_
  intro q hq
  obtain ⟨q0, h0, rfl⟩ := List.mem_map.mp hq
  rcases c_ins_mem h0 with h0 | h0
  · rw [h0]; exact List.mem_cons_self
  · obtain ⟨h1, h2⟩ := c_fil_mem h0
    refine List.mem_cons_of_mem _ (List.mem_filter.mpr ⟨List.mem_map.mpr ⟨q0, h1, rfl⟩, ?_⟩)
    dsimp only
    rw [c_cat_dv]
    simp only [c_beqd]
    exact h2
theorem c_st2_has {ls : Array Slot} {nL i : Nat} {lv : c_L} {v : c_V} {vv : Value} (hv : dv a v = vv) (h : lv_has ls nL ((i, vv) :: (c_dl a lv).filter (fun q => !(q.1 == i) && (!(q.1 == i + 1) && !(q.1 + 1 == i && q.2.category == 2))))) : lv_has ls nL (c_dl a (c_st2 i v lv)) := by
  subst hv
  refine lv_mono h ?_
  intro q hq
  obtain ⟨q0, h0, rfl⟩ := List.mem_map.mp hq
  rcases c_ins_mem h0 with h0 | h0
  · rw [h0]; exact List.mem_cons_self
  · obtain ⟨h1, h2⟩ := c_fil_mem h0
    refine List.mem_cons_of_mem _ (List.mem_filter.mpr ⟨List.mem_map.mpr ⟨q0, h1, rfl⟩, ?_⟩)
    dsimp only
    rw [c_cat_dv]
    simp only [c_beqd]
    exact h2
end WW
