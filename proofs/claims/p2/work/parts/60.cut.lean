/-! the reference: frames, and its cutting of the text -/
/-- what stays: all cells but the rows S (the object itself: all fields but Y), all longs but L -/
def z_F (S Y L : List Nat) (s t : c_S) : Prop := (∀ a, c_has S a = false → a ≠ 34 → t.1 a = s.1 a) ∧ (∀ j, c_has Y j = false → t.1 34 j = s.1 34 j) ∧ (∀ a, c_has L a = false → t.2 a = s.2 a)
theorem z_F.rf {S Y L : List Nat} {s : c_S} : z_F S Y L s s := ⟨fun _ _ _ => rfl, fun _ _ => rfl, fun _ _ => rfl⟩
theorem z_F.tr {S Y L : List Nat} {s t u : c_S} (h : z_F S Y L s t) (k : z_F S Y L t u) : z_F S Y L s u := ⟨fun a h1 h2 => (k.1 a h1 h2).trans (h.1 a h1 h2), fun j hj => (k.2.1 j hj).trans (h.2.1 j hj), fun a ha => (k.2.2 a ha).trans (h.2.2 a ha)⟩
theorem c_has_sub {S T : List Nat} (h : S.all (c_has T) = true) {a : Nat} (ha : c_has T a = false) : c_has S a = false := by
  cases hc : c_has S a
  · rfl
  · have := List.all_eq_true.mp h a (c_has_mem hc)
    rw [this] at ha; cases ha
theorem z_F.mono {S Y L S' Y' L' : List Nat} {s t : c_S} (h : z_F S Y L s t) (hh : (S.all (c_has S') && Y.all (c_has Y') && L.all (c_has L')) = true) : z_F S' Y' L' s t := by
  obtain ⟨h12, h3⟩ := (Bool.and_eq_true _ _).mp hh
  obtain ⟨h1, h2⟩ := (Bool.and_eq_true _ _).mp h12
  exact ⟨fun a ha => h.1 a (c_has_sub h1 ha), fun j hj => h.2.1 j (c_has_sub h2 hj), fun a ha => h.2.2 a (c_has_sub h3 ha)⟩
theorem z_F.put {S Y L : List Nat} {s t : c_S} {k j : Nat} {x : Int32} (h : z_F S Y L s t) (hk : c_has S k = true) (h34 : k ≠ 34) : z_F S Y L s (c_put t k j x) := by
  refine ⟨fun a ha h9 => ?_, fun i hi => ?_, h.2.2⟩
  · have : a ≠ k := fun e => by rw [e, hk] at ha; cases ha
    rw [c_put_ne this]; exact h.1 a ha h9
  · rw [c_put_ne (Ne.symm h34)]; exact h.2.1 i hi
theorem z_F.puf {S Y L : List Nat} {s t : c_S} {j : Nat} {x : Int32} (h : z_F S Y L s t) (hj : c_has Y j = true) : z_F S Y L s (c_put t 34 j x) := by
  refine ⟨fun a ha h9 => ?_, fun i hi => ?_, h.2.2⟩
  · rw [c_put_ne h9]; exact h.1 a ha h9
  · have : i ≠ j := fun e => by rw [e, hj] at hi; cases hi
    rw [c_put_get, if_neg this]; exact h.2.1 i hi
theorem z_F.putL {S Y L : List Nat} {s t : c_S} {k j : Nat} {x : Int64} (h : z_F S Y L s t) (hk : c_has L k = true) : z_F S Y L s (c_putL t k j x) := by
  refine ⟨h.1, h.2.1, fun a ha => ?_⟩
  have : a ≠ k := fun e => by rw [e, hk] at ha; cases ha
  rw [c_putL_ne this]; exact h.2.2 a ha
/-- a long from 0 up to below B -/
def z_lb (x : Int64) (B : Nat) : Prop := 0 ≤ x.toInt ∧ x.toInt < (B : Int)
theorem z_lb.le {x : Int64} {B C : Nat} (h : z_lb x B) (hC : B ≤ C) : z_lb x C := ⟨h.1, by have := h.2; omega⟩
theorem z_lb_step {x : Int64} {r : Int32} {q : Nat} (h : z_lb x (64 ^ q)) (hq : q ≤ 8) (hr : 0 ≤ r.toInt ∧ r.toInt ≤ 63) : z_lb (64 * x + r.toInt64) (64 ^ (q + 1)) := by
  have hP : (64 : Nat) ^ q ≤ 64 ^ 8 := Nat.pow_le_pow_right (by decide) hq
  have hE : (64 : Nat) ^ (q + 1) = 64 ^ q * 64 := Nat.pow_succ ..
  have h8 : (64 : Nat) ^ 8 = 281474976710656 := by decide
  obtain ⟨h1, h2⟩ := h
  have e1 : ((64 : Int64) * x).toInt = 64 * x.toInt := by
    rw [Int64.toInt_mul, show (64 : Int64).toInt = 64 from by decide, Int.bmod_def]; omega
  have e2 : ((64 : Int64) * x + r.toInt64).toInt = 64 * x.toInt + r.toInt := by
    rw [Int64.toInt_add, e1, Int32.toInt_toInt64, Int.bmod_def]; omega
  unfold z_lb
  rw [e2, hE]
  omega
def z_LD (c : Int32) : Prop := (48 ≤ c.toInt ∧ c.toInt ≤ 57) ∨ (65 ≤ c.toInt ∧ c.toInt ≤ 90) ∨ (97 ≤ c.toInt ∧ c.toInt ≤ 122)
theorem z_isLetter (d : Nat) (hd : 1 ≤ d) (c : Int32) (s : c_S) : k_ok (c_M d 20 [v_i c] s) (fun σ x => σ = s ∧ (¬ x = 0 → z_LD c)) := by
  obtain ⟨d, rfl⟩ : ∃ e, d = e + 1 := ⟨d - 1, by omega⟩
  rw [m_Rm_isLetter, e_Rm_isLetter_0]
  have no : ∀ (P : Prop), k_ok (some (s, (0 : Int32))) (fun σ x => σ = s ∧ (¬ x = 0 → P)) := fun P => k_some ⟨rfl, fun h => absurd rfl h⟩
  refine k_if (fun h1 => k_if (fun _ => no _) (fun h2 => k_if (fun _ => no _) (fun h3 => k_some ⟨rfl, fun _ => ?_⟩))) (fun h1 => k_if (fun h2 => k_if (fun _ => no _) (fun h3 => k_if (fun _ => no _) (fun h4 => k_some ⟨rfl, fun _ => ?_⟩))) (fun h2 => k_some ⟨rfl, fun _ => ?_⟩))
  · rw [Int32.lt_iff_toInt_lt] at h2 h3
    have a1 : (65 : Int32).toInt = 65 := by decide
    have a2 : (90 : Int32).toInt = 90 := by decide
    exact Or.inr (Or.inl (by omega))
  · rw [Int32.lt_iff_toInt_lt] at h1 h4
    have a1 : (97 : Int32).toInt = 97 := by decide
    have a2 : (90 : Int32).toInt = 90 := by decide
    omega
  · rw [Int32.lt_iff_toInt_lt] at h1 h2
    have a1 : (97 : Int32).toInt = 97 := by decide
    have a2 : (122 : Int32).toInt = 122 := by decide
    exact Or.inr (Or.inr (by omega))
theorem z_isDigit (d : Nat) (hd : 1 ≤ d) (c : Int32) (s : c_S) : k_ok (c_M d 21 [v_i c] s) (fun σ x => σ = s ∧ (¬ x = 0 → z_LD c)) := by
  obtain ⟨d, rfl⟩ : ∃ e, d = e + 1 := ⟨d - 1, by omega⟩
  rw [m_Rm_isDigit, e_Rm_isDigit_0]
  refine k_if (fun _ => k_some ⟨rfl, fun h => absurd rfl h⟩) (fun h1 => k_if (fun _ => k_some ⟨rfl, fun h => absurd rfl h⟩) (fun h2 => k_some ⟨rfl, fun _ => ?_⟩))
  rw [Int32.lt_iff_toInt_lt] at h1 h2
  have a1 : (48 : Int32).toInt = 48 := by decide
  have a2 : (57 : Int32).toInt = 57 := by decide
  exact Or.inl (by omega)
theorem z_sub {c k : Int32} (h : -1000 ≤ c.toInt ∧ c.toInt ≤ 1000) (hk : -1000 ≤ k.toInt ∧ k.toInt ≤ 1000) : (c - k).toInt = c.toInt - k.toInt := by
  rw [Int32.toInt_sub, Int.bmod_def]; omega
theorem z_add {c k : Int32} (h : -2000 ≤ c.toInt ∧ c.toInt ≤ 2000) (hk : -1000 ≤ k.toInt ∧ k.toInt ≤ 1000) : (c + k).toInt = c.toInt + k.toInt := by
  rw [Int32.toInt_add, Int.bmod_def]; omega
theorem z_rank (d : Nat) (hd : 1 ≤ d) (c : Int32) (s : c_S) (hc : z_LD c) : k_ok (c_M d 22 [v_i c] s) (fun σ x => σ = s ∧ 1 ≤ x.toInt ∧ x.toInt ≤ 62) := by
  obtain ⟨d, rfl⟩ : ∃ e, d = e + 1 := ⟨d - 1, by omega⟩
  rw [m_Rm_rank, e_Rm_rank_0]
  have hb : -1000 ≤ c.toInt ∧ c.toInt ≤ 1000 := by unfold z_LD at hc; omega
  have a48 : (48 : Int32).toInt = 48 := by decide
  have a53 : (53 : Int32).toInt = 53 := by decide
  have a65 : (65 : Int32).toInt = 65 := by decide
  have a27 : (27 : Int32).toInt = 27 := by decide
  have a97 : (97 : Int32).toInt = 97 := by decide
  have a1 : (1 : Int32).toInt = 1 := by decide
  unfold z_LD at hc
  refine k_if (fun h1 => k_if (fun h2 => k_some ⟨rfl, ?_⟩) (fun h2 => k_some ⟨rfl, ?_⟩)) (fun h1 => k_some ⟨rfl, ?_⟩)
  · rw [Int32.lt_iff_toInt_lt] at h2
    rw [z_add (by rw [z_sub hb (by omega)]; omega) (by omega), z_sub hb (by omega)]; omega
  · rw [Int32.lt_iff_toInt_lt] at h1 h2
    rw [z_add (by rw [z_sub hb (by omega)]; omega) (by omega), z_sub hb (by omega)]; omega
  · rw [Int32.lt_iff_toInt_lt] at h1
    rw [z_add (by rw [z_sub hb (by omega)]; omega) (by omega), z_sub hb (by omega)]; omega
theorem z_isSignOf (d : Nat) (hd : 1 ≤ d) (c : Int32) (s : c_S) : k_ok (c_M d 23 [v_i c] s) (fun σ _ => σ = s) := by
  obtain ⟨d, rfl⟩ : ∃ e, d = e + 1 := ⟨d - 1, by omega⟩
  rw [m_Rm_isSignOf, e_Rm_isSignOf_0]
  have yes : k_ok (b_Rm_isSignOf_66 (c_M d) s) (fun σ _ => σ = s) := by rw [e_Rm_isSignOf_66]; exact k_some rfl
  have rest : k_ok (b_Rm_isSignOf_54 (c_M d) c s) (fun σ _ => σ = s) := by
    rw [e_Rm_isSignOf_54]
    repeat' first
      | exact yes
      | exact k_some rfl
      | refine k_if (fun _ => ?_) (fun _ => ?_)
  repeat' first
    | exact yes
    | exact rest
    | refine k_if (fun _ => ?_) (fun _ => ?_)
