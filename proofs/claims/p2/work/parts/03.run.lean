/-! one step either stops, or answers, or goes on at one place: so runs have a limit -/
def c_ct (F : c_K → c_R) : Prop := (∀ K, F K = none) ∨ (∃ x, ∀ K, F K = some x) ∨ ∃ pc lv st σ, ∀ K, F K = K pc lv st σ
theorem ct_n : c_ct (fun _ => none) := Or.inl fun _ => rfl
theorem ct_s (x : c_S × Int32) : c_ct (fun _ => some x) := Or.inr (Or.inl ⟨x, fun _ => rfl⟩)
theorem ct_K (pc : Nat) (lv : c_L) (st : List c_V) (σ : c_S) : c_ct (fun K => K pc lv st σ) := Or.inr (Or.inr ⟨pc, lv, st, σ, fun _ => rfl⟩)
theorem ct_if {c : Prop} [Decidable c] {F G : c_K → c_R} (h1 : c_ct F) (h2 : c_ct G) : c_ct (fun K => if c then F K else G K) := by
  by_cases h : c
  · simpa only [h, if_true] using h1
  · simpa only [h, if_false] using h2
theorem ct_at {l : c_L} {i : Nat} {F : c_V → c_K → c_R} (h : ∀ v, c_ct (F v)) : c_ct (fun K => c_at l i (fun v => F v K)) := by
  unfold c_at
  cases c_lk l i with
  | none => exact ct_n
  | some v => exact h v
theorem ct_isI {v : c_V} {F : Int32 → c_K → c_R} (h : ∀ v, c_ct (F v)) : c_ct (fun K => c_isI v (fun v => F v K)) := by
  rcases v with v | v
  · exact h v
  · exact ct_n
theorem ct_isL {v : c_V} {F : Int64 → c_K → c_R} (h : ∀ v, c_ct (F v)) : c_ct (fun K => c_isL v (fun v => F v K)) := by
  rcases v with v | v | v
  · exact ct_n
  · exact h v
  · exact ct_n
theorem ct_isR {v : c_V} {F : Nat → c_K → c_R} (h : ∀ v, c_ct (F v)) : c_ct (fun K => c_isR v (fun v => F v K)) := by
  rcases v with v | v | v
  · exact ct_n
  · exact ct_n
  · exact h v
theorem ct_p1 {st : List c_V} {F : c_V → List c_V → c_K → c_R} (h : ∀ v r, c_ct (F v r)) : c_ct (fun K => c_p1 st (fun v r => F v r K)) := by
  cases st with
  | nil => exact ct_n
  | cons v r => exact h v r
theorem ct_obj {CT : List c_D} {k u : Nat} {F : List Nat → c_K → c_R} (h : ∀ v, c_ct (F v)) : c_ct (fun K => c_obj CT k u (fun v => F v K)) := by
  unfold c_obj
  rcases c_nth CT k with _ | ⟨⟨ci, sl⟩⟩ | _
  · exact ct_n
  · cases hb : Nat.beq ci u
    · simp only [hb]; exact ct_n
    · simp only [hb]; exact h sl
  · exact ct_n
theorem ct_arr {CT : List c_D} {k : Nat} {F : FieldType → Nat → c_K → c_R} (h : ∀ v n, c_ct (F v n)) : c_ct (fun K => c_arr CT k (fun v n => F v n K)) := by
  unfold c_arr
  rcases c_nth CT k with _ | _ | ⟨ty, n⟩
  · exact ct_n
  · exact ct_n
  · exact h ty n
theorem ct_rg {i : Int32} {n : Nat} {F : c_K → c_R} (h : c_ct F) : c_ct (fun K => c_rg i n (F K)) := by
  unfold c_rg
  exact ct_if h ct_n
theorem ct_bd {o : c_R} {F : c_S → Int32 → c_K → c_R} (h : ∀ σ x, c_ct (F σ x)) : c_ct (fun K => c_bd o (fun σ x => F σ x K)) := by
  unfold c_bd
  rcases o with _ | ⟨σ, x⟩
  · exact ct_n
  · exact h σ x
theorem ct_sw {x : Int32} {d : Nat} {F : Nat → c_K → c_R} (h : ∀ p, c_ct (F p)) (sw : List (Int32 × Nat)) : c_ct (fun K => c_sw x d (fun p => F p K) sw) := by
  induction sw with
  | nil => exact h d
  | cons q r ih =>
    obtain ⟨k, t⟩ := q
    simp only [c_sw]
    exact ct_if (h t) ih
theorem ct_call {CT : List c_D} {vir : Bool} {C : c_C} {ax : c_V} {t u w : Nat} {st : List c_V} {σ : c_S} {F : List c_V → c_S → c_K → c_R} (h : ∀ r s, c_ct (F r s)) : c_ct (fun K => c_call CT vir C ax t u w st σ (fun r s => F r s K)) := by
  unfold c_call
  refine ct_isR fun n => ?_
  rcases c_pop n [] st with _ | ⟨as, r⟩
  · exact ct_n
  · have hg : c_ct (fun K => (match u with
          | 0 => c_bd (C t as σ) fun σ' _ => F r σ' K
          | _ + 1 => c_bd (C t as σ) fun σ' x => F (.inl x :: r) σ' K)) := by
      cases u with
      | zero => exact ct_bd fun σ x => h _ _
      | succ u => exact ct_bd fun σ x => h _ _
    cases hb : Nat.ble (c_sum r) 8
    · simp only [hb]; exact ct_n
    · simp only [hb]
      cases vir with
      | false => exact hg
      | true => exact ct_p1 fun a _ => ct_isR fun k => ct_obj fun _ => hg
set_option maxHeartbeats 4000000 in
theorem ct_s1 (CT : List c_D) (e : c_E) (rb : Nat) (C : c_C) (lv : c_L) (st : List c_V) (σ : c_S) : c_ct (c_s1 CT e rb C lv st σ) := by
  obtain ⟨ins, nx, ax, t, u, w, sw⟩ := e
  show c_ct (fun K => c_s1 CT (ins, nx, ax, t, u, w, sw) rb C lv st σ K)
  unfold c_s1
  cases ins <;> dsimp only <;> first
    | exact ct_n
    | exact ct_K _ _ _ _
    | exact ct_at fun v => ct_isR fun k => ct_K _ _ _ _
    | exact ct_at fun v => ct_isI fun k => ct_K _ _ _ _
    | exact ct_at fun v => ct_isL fun k => ct_K _ _ _ _
    | exact ct_p1 fun v r => ct_isI fun x => ct_K _ _ _ _
    | exact ct_p1 fun v r => ct_isL fun x => ct_K _ _ _ _
    | exact ct_at fun v => ct_isI fun x => ct_isI fun y => ct_K _ _ _ _
    | exact ct_isI fun x => ct_K _ _ _ _
    | exact ct_isL fun x => ct_K _ _ _ _
    | exact ct_p1 fun v r => ct_isI fun x => ct_p1 fun v r => ct_isI fun y => ct_K _ _ _ _
    | exact ct_p1 fun v r => ct_isI fun x => ct_p1 fun v r => ct_isI fun y => ct_if ct_n (ct_K _ _ _ _)
    | exact ct_p1 fun v r => ct_isL fun x => ct_p1 fun v r => ct_isL fun y => ct_K _ _ _ _
    | exact ct_p1 fun v r => ct_isL fun x => ct_p1 fun v r => ct_isL fun y => ct_if ct_n (ct_K _ _ _ _)
    | exact ct_p1 fun v r => ct_isI fun x => ct_p1 fun v r => ct_isL fun y => ct_K _ _ _ _
    | exact ct_p1 fun v r => ct_isI fun x => ct_sw (fun p => ct_K _ _ _ _) _
    | exact ct_call fun r s => ct_K _ _ _ _
    | exact ct_p1 fun v r => ct_isR fun k => ct_arr fun ty n => ct_K _ _ _ _
    | (refine ct_p1 fun v r => ?_
       rcases v with v | v | v
       · exact ct_K _ _ _ _
       · exact ct_n
       · exact ct_K _ _ _ _)
    | (rename_i cd off
       cases cd <;> first
         | exact ct_p1 fun v r => ct_isI fun x => ct_p1 fun v r => ct_isI fun y => ct_if (ct_K _ _ _ _) (ct_K _ _ _ _)
         | exact ct_p1 fun v r => ct_isI fun x => ct_if (ct_K _ _ _ _) (ct_K _ _ _ _))
    | (refine ct_p1 fun v r => ct_isI fun i => ct_p1 fun v r => ct_isR fun k => ct_arr fun ty n => ?_
       cases ty <;> first | exact ct_n | exact ct_rg (ct_K _ _ _ _))
    | (refine ct_p1 fun v r => ct_isI fun x => ct_p1 fun v r => ct_isI fun i => ct_p1 fun v r => ct_isR fun k => ct_arr fun ty n => ?_
       cases ty <;> first | exact ct_n | exact ct_rg (ct_K _ _ _ _))
    | (refine ct_p1 fun v r => ct_isL fun x => ct_p1 fun v r => ct_isI fun i => ct_p1 fun v r => ct_isR fun k => ct_arr fun ty n => ?_
       cases ty <;> first | exact ct_n | exact ct_rg (ct_K _ _ _ _))
    | (refine ct_p1 fun v r => ct_isR fun k => ct_obj fun sl => ?_
       rcases c_nth sl t with _ | _ | _ | n
       · exact ct_n
       · exact ct_K _ _ _ _
       · exact ct_K _ _ _ _
       · exact ct_K _ _ _ _)
    | (refine ct_p1 fun v r => ct_isI fun x => ct_p1 fun v r => ct_isR fun k => ct_obj fun sl => ?_
       rcases c_nth sl t with _ | _ | _ | n
       · exact ct_n
       · exact ct_K _ _ _ _
       · exact ct_if (ct_K _ _ _ _) ct_n
       · exact ct_n)
    | (cases w with
       | zero => exact ct_call fun r s => ct_K _ _ _ _
       | succ w =>
         refine ct_p1 fun v r => ct_isI fun x => ct_p1 fun v r => ct_isI fun y => ?_
         cases hb : Nat.ble (c_sum r) 8
         · simp only [hb]; exact ct_n
         · simp only [hb]; exact ct_K _ _ _ _)
    | (refine ct_p1 fun v r => ct_isI fun x => ?_
       rcases r with _ | _
       · rcases rb with _ | _ | _ | _
         · exact ct_n
         · exact ct_s _
         · exact ct_if (ct_s _) ct_n
         · exact ct_n
       · exact ct_n)
    | (rcases st with _ | _
       · rcases rb with _ | _
         · exact ct_s _
         · exact ct_n
       · exact ct_n)
theorem c_go_succ {CT : List c_D} {T : List (Nat × c_E)} {L : List (Nat × List Nat)} {rb : Nat} {C : c_C} : ∀ (n pc : Nat) (lv : c_L) (st : List c_V) (σ : c_S) (x : c_S × Int32), c_go CT T L rb C n pc lv st σ = some x → c_go CT T L rb C (n + 1) pc lv st σ = some x
  | 0, _, _, _, _, _, h => by simp [c_go] at h
  | n + 1, pc, lv, st, σ, x, h => by
    rw [c_go] at h ⊢
    cases he : c_lk T pc with
    | none => simp [he] at h
    | some e =>
      simp only [he] at h ⊢
      rcases ct_s1 CT e rb C lv st σ with h1 | ⟨y, h1⟩ | ⟨pc1, lv1, st1, σ1, h1⟩
      · rw [h1] at h; cases h
      · rw [h1] at h ⊢; exact h
      · rw [h1] at h ⊢; exact c_go_succ n _ _ _ _ _ h
theorem c_go_mono {CT : List c_D} {T : List (Nat × c_E)} {L : List (Nat × List Nat)} {rb : Nat} {C : c_C} {n k pc : Nat} {lv : c_L} {st : List c_V} {σ : c_S} {x : c_S × Int32} (hk : n ≤ k) (h : c_go CT T L rb C n pc lv st σ = some x) : c_go CT T L rb C k pc lv st σ = some x := by
  obtain ⟨j, rfl⟩ := Nat.exists_eq_add_of_le hk
  induction j with
  | zero => exact h
  | succ j ih => exact c_go_succ _ _ _ _ _ _ (ih (Nat.le_add_right _ _))
/-- the run to its end, however long -/
noncomputable def c_run (CT : List c_D) (T : List (Nat × c_E)) (L : List (Nat × List Nat)) (rb : Nat) (C : c_C) : c_K := fun pc lv st σ =>
  @dite c_R (∃ x, ∃ n, c_go CT T L rb C n pc lv st σ = some x) (Classical.propDecidable _) (fun h => some (Classical.choose h)) (fun _ => none)
theorem c_run_iff {CT : List c_D} {T : List (Nat × c_E)} {L : List (Nat × List Nat)} {rb : Nat} {C : c_C} {pc : Nat} {lv : c_L} {st : List c_V} {σ : c_S} {x : c_S × Int32} : c_run CT T L rb C pc lv st σ = some x ↔ ∃ n, c_go CT T L rb C n pc lv st σ = some x := by
  unfold c_run
  constructor
  · intro h
    split at h
    · rename_i hx
      have := Classical.choose_spec hx
      rw [Option.some.inj h] at this
      exact this
    · cases h
  · intro h
    have hx : ∃ x, ∃ n, c_go CT T L rb C n pc lv st σ = some x := ⟨x, h⟩
    rw [dif_pos hx]
    obtain ⟨n, hn⟩ := h
    obtain ⟨k, hk⟩ := Classical.choose_spec hx
    have h1 := c_go_mono (Nat.le_max_left n k) hn
    have h2 := c_go_mono (Nat.le_max_right n k) hk
    rw [h1] at h2
    exact h2.symm
theorem c_run_eq (CT : List c_D) (T : List (Nat × c_E)) (L : List (Nat × List Nat)) (rb : Nat) (C : c_C) (pc : Nat) (lv : c_L) (st : List c_V) (σ : c_S) :
    c_run CT T L rb C pc lv st σ = (match c_lk T pc with
      | none => none
      | some e => c_s1 CT e rb C lv st σ (fun pc' lv' st' σ' => c_run CT T L rb C pc' (c_nr L pc' lv') st' σ')) := by
  apply Option.ext
  intro x
  rw [c_run_iff]
  cases he : c_lk T pc with
  | none =>
    constructor
    · rintro ⟨n, hn⟩
      cases n with
      | zero => simp [c_go] at hn
      | succ n => simp [c_go, he] at hn
    · intro h; cases h
  | some e =>
    dsimp only
    rcases ct_s1 CT e rb C lv st σ with h1 | ⟨y, h1⟩ | ⟨pc1, lv1, st1, σ1, h1⟩
    · rw [h1]
      constructor
      · rintro ⟨n, hn⟩
        cases n with
        | zero => simp [c_go] at hn
        | succ n => simp [c_go, he, h1] at hn
      · intro h; cases h
    · rw [h1]
      constructor
      · rintro ⟨n, hn⟩
        cases n with
        | zero => simp [c_go] at hn
        | succ n => simpa [c_go, he, h1] using hn
      · intro h; exact ⟨1, by simpa [c_go, he, h1] using h⟩
    · rw [h1, c_run_iff]
      constructor
      · rintro ⟨n, hn⟩
        cases n with
        | zero => simp [c_go] at hn
        | succ n => exact ⟨n, by simpa [c_go, he, h1] using hn⟩
      · rintro ⟨n, hn⟩; exact ⟨n + 1, by simpa [c_go, he, h1] using hn⟩
/-- up to the next head of a block -/
noncomputable def c_blk (CT : List c_D) (T : List (Nat × c_E)) (L : List (Nat × List Nat)) (rb : Nat) (C : c_C) : Nat → c_K
  | 0, pc, lv, st, σ => c_run CT T L rb C pc lv st σ
  | n + 1, pc, lv, st, σ => match c_lk T pc with
    | none => none
    | some e => c_s1 CT e rb C lv st σ (fun pc' lv' st' σ' => match c_stop L pc' with
      | true => c_run CT T L rb C pc' (c_nr L pc' lv') st' σ'
      | false => c_blk CT T L rb C n pc' lv' st' σ')
theorem c_blk_eq (CT : List c_D) (T : List (Nat × c_E)) (L : List (Nat × List Nat)) (rb : Nat) (C : c_C) : ∀ (n pc : Nat) (lv : c_L) (st : List c_V) (σ : c_S), c_run CT T L rb C pc lv st σ = c_blk CT T L rb C n pc lv st σ
  | 0, _, _, _, _ => rfl
  | n + 1, pc, lv, st, σ => by
    rw [c_run_eq, c_blk]
    cases c_lk T pc with
    | none => rfl
    | some e =>
      dsimp only
      congr 1
      funext pc' lv' st' σ'
      cases hb : c_lk L pc' with
      | none => simp only [c_stop, c_nr, hb]; exact c_blk_eq CT T L rb C n pc' lv' st' σ'
      | some ks => simp only [c_stop, hb]
