/-- up to the next of the places S -/
noncomputable def c_blkS (S : List Nat) (CT : List c_D) (T : List (Nat × c_E)) (L : List (Nat × List Nat)) (rb : Nat) (C : c_C) : Nat → c_K
  | 0, pc, lv, st, σ => c_run CT T L rb C pc lv st σ
  | n + 1, pc, lv, st, σ => match c_lk T pc with
    | none => none
    | some e => c_s1 CT e rb C lv st σ (fun pc' lv' st' σ' => match c_has S pc' with
      | true => c_run CT T L rb C pc' (c_nr L pc' lv') st' σ'
      | false => c_blkS S CT T L rb C n pc' (c_nr L pc' lv') st' σ')
theorem c_blkS_eq (S : List Nat) (CT : List c_D) (T : List (Nat × c_E)) (L : List (Nat × List Nat)) (rb : Nat) (C : c_C) : ∀ (n pc : Nat) (lv : c_L) (st : List c_V) (σ : c_S), c_run CT T L rb C pc lv st σ = c_blkS S CT T L rb C n pc lv st σ
  | 0, _, _, _, _ => rfl
  | n + 1, pc, lv, st, σ => by
    rw [c_run_eq, c_blkS]
    cases c_lk T pc with
    | none => rfl
    | some e =>
      dsimp only
      congr 1
      funext pc' lv' st' σ'
      cases hb : c_has S pc' with
      | false => exact c_blkS_eq S CT T L rb C n pc' (c_nr L pc' lv') st' σ'
      | true => rfl
