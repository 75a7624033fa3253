/-! pure side: reading and writing a state, bytes -/
theorem bv_byte (x : BitVec 64) (n : Nat) (hn : n ≤ 56) : ((x >>> n) &&& 255#64).signExtend 32 = (x.sshiftRight n).signExtend 32 &&& 255#32 := by
  apply BitVec.eq_of_getLsbD_eq
  intro i hi
  have h64 : (255#64).getLsbD i = decide (i < 8) := by
    rcases (show i < 32 from hi) with _
    have : ∀ j : Nat, j < 32 → (255#64).getLsbD j = decide (j < 8) := by decide
    exact this i hi
  have h32 : (255#32).getLsbD i = decide (i < 8) := by
    have : ∀ j : Nat, j < 32 → (255#32).getLsbD j = decide (j < 8) := by decide
    exact this i hi
  rw [BitVec.getLsbD_and, h32, BitVec.getLsbD_signExtend, BitVec.getLsbD_signExtend, BitVec.getLsbD_and, h64, BitVec.getLsbD_ushiftRight, BitVec.getLsbD_sshiftRight]
  by_cases h8 : i < 8
  · have h1 : n + i < 64 := by omega
    have h2 : i < 64 := by omega
    simp [h8, h1, h2, hi, Nat.not_le.mpr h2]
  · simp [h8]
    intro _ h; omega
theorem c_put_get {s : c_S} {k j i : Nat} {x : Int32} : (c_put s k j x).1 k i = if i = j then x else s.1 k i := by
  rw [c_put_eq]; rfl
theorem c_put_same {s : c_S} {k j : Nat} {x : Int32} : (c_put s k j x).1 k j = x := by
  rw [c_put_get, if_pos rfl]
theorem c_put_off {s : c_S} {k j k' i : Nat} {x : Int32} (h : k' ≠ k) : (c_put s k j x).1 k' i = s.1 k' i := by
  rw [c_put_ne h]
theorem c_put_2 {s : c_S} {k j : Nat} {x : Int32} : (c_put s k j x).2 = s.2 := rfl
theorem c_putL_1 {s : c_S} {k j : Nat} {x : Int64} : (c_putL s k j x).1 = s.1 := rfl
theorem c_putL_get {s : c_S} {k j i : Nat} {x : Int64} : (c_putL s k j x).2 k i = if i = j then x else s.2 k i := by
  rw [c_putL_eq]; rfl
theorem c_putL_off {s : c_S} {k j k' i : Nat} {x : Int64} (h : k' ≠ k) : (c_putL s k j x).2 k' i = s.2 k' i := by
  rw [c_putL_ne h]
theorem c_rg_nI {k n : Nat} {f : c_R} (h : k < n) (hn : n < 2 ^ 31) : c_rg (nI k) n f = f := by
  unfold c_rg c_inb
  rw [if_pos (decide_eq_true (nI_in h hn))]
theorem c_bd_some {σ : c_S} {x : Int32} {f : c_S → Int32 → c_R} : c_bd (some (σ, x)) f = f σ x := rfl
