/-! a run that ends, and what holds of its end -/
def k_ok (o : c_R) (P : c_S → Int32 → Prop) : Prop := ∃ σ r, o = some (σ, r) ∧ P σ r
theorem k_some {σ : c_S} {r : Int32} {P : c_S → Int32 → Prop} (h : P σ r) : k_ok (some (σ, r)) P := ⟨σ, r, rfl, h⟩
theorem k_if {c : Prop} [Decidable c] {A B : c_R} {P : c_S → Int32 → Prop} (h1 : c → k_ok A P) (h2 : ¬ c → k_ok B P) : k_ok (if c then A else B) P := by
  by_cases h : c
  · rw [if_pos h]; exact h1 h
  · rw [if_neg h]; exact h2 h
theorem k_bd {o : c_R} {f : c_S → Int32 → c_R} {P Q : c_S → Int32 → Prop} (h : k_ok o Q) (k : ∀ σ r, Q σ r → k_ok (f σ r) P) : k_ok (c_bd o f) P := by
  obtain ⟨σ, r, e, hq⟩ := h
  rw [e]
  exact k σ r hq
theorem k_rg {i : Int32} {n : Nat} {K : c_R} {P : c_S → Int32 → Prop} (h : c_inb i n = true) (k : k_ok K P) : k_ok (c_rg i n K) P := by
  unfold c_rg; rw [if_pos h]; exact k
theorem k_bz {x : Int32} {σ : c_S} {P : c_S → Int32 → Prop} (hx : c_bz x = true) (h : P σ x) : k_ok (if c_bz x = true then some (σ, x) else none) P := by
  rw [if_pos hx]; exact ⟨σ, x, rfl, h⟩
theorem k_mono {o : c_R} {P Q : c_S → Int32 → Prop} (h : k_ok o P) (k : ∀ σ r, P σ r → Q σ r) : k_ok o Q := by
  obtain ⟨σ, r, e, hq⟩ := h
  exact ⟨σ, r, e, k σ r hq⟩
def k_b (n : Nat) (r : Int32) : Prop := n = 2 → c_bz r = true
theorem k_b0 {r : Int32} : k_b 0 r := fun h => absurd h (by decide)
theorem k_b1 {r : Int32} : k_b 1 r := fun h => absurd h (by decide)
theorem k_b2 {r : Int32} (h : c_bz r = true) : k_b 2 r := fun _ => h
/-- what is left as it was: all cells but those of S, the fields of X, all longs -/
def k_F (S : List Nat) (X : List (Nat × Nat)) (s t : c_S) : Prop := (∀ a, c_has S a = false → t.1 a = s.1 a) ∧ (∀ p ∈ X, t.1 p.1 p.2 = s.1 p.1 p.2) ∧ t.2 = s.2
theorem k_F.rf {S : List Nat} {X : List (Nat × Nat)} {s : c_S} : k_F S X s s := ⟨fun _ _ => rfl, fun _ _ => rfl, rfl⟩
theorem k_F.tr {S : List Nat} {X : List (Nat × Nat)} {s t u : c_S} (h : k_F S X s t) (k : k_F S X t u) : k_F S X s u := ⟨fun a ha => (k.1 a ha).trans (h.1 a ha), fun p hp => (k.2.1 p hp).trans (h.2.1 p hp), k.2.2.trans h.2.2⟩
theorem c_has_mem : ∀ {S : List Nat} {a : Nat}, c_has S a = true → a ∈ S
  | [], _, h => by cases h
  | j :: t, a, h => by
    unfold c_has at h
    cases hb : Nat.beq j a
    · rw [hb] at h; exact List.mem_cons_of_mem _ (c_has_mem h)
    · have := Nat.eq_of_beq_eq_true hb
      subst this; exact List.mem_cons_self
def k_hp : List (Nat × Nat) → Nat × Nat → Bool
  | [], _ => false
  | q :: t, p => (Nat.beq q.1 p.1 && Nat.beq q.2 p.2) || k_hp t p
theorem k_hp_mem : ∀ {X : List (Nat × Nat)} {p : Nat × Nat}, k_hp X p = true → p ∈ X
  | [], _, h => by cases h
  | q :: t, p, h => by
    unfold k_hp at h
    rcases (Bool.or_eq_true _ _).mp h with h | h
    · obtain ⟨h1, h2⟩ := (Bool.and_eq_true _ _).mp h
      have e1 := Nat.eq_of_beq_eq_true h1
      have e2 := Nat.eq_of_beq_eq_true h2
      have : q = p := Prod.ext e1 e2
      rw [this]; exact List.mem_cons_self
    · exact List.mem_cons_of_mem _ (k_hp_mem h)
theorem k_F.mono {S T : List Nat} {X Y : List (Nat × Nat)} {s t : c_S} (h : k_F S X s t) (hS : (S.all (c_has T) && Y.all (k_hp X)) = true) : k_F T Y s t := by
  obtain ⟨hS, hX⟩ := (Bool.and_eq_true _ _).mp hS
  refine ⟨fun a ha => h.1 a ?_, fun p hp => h.2.1 p (k_hp_mem (List.all_eq_true.mp hX p hp)), h.2.2⟩
  cases hc : c_has S a
  · rfl
  · have := List.all_eq_true.mp hS a (c_has_mem hc)
    rw [this] at ha; cases ha
theorem k_F.put {S : List Nat} {X : List (Nat × Nat)} {s t : c_S} {k j : Nat} {x : Int32} (h : k_F S X s t) (hk : (c_has S k && X.all (fun p => !(Nat.beq p.1 k))) = true) : k_F S X s (c_put t k j x) := by
  obtain ⟨hk, hX⟩ := (Bool.and_eq_true _ _).mp hk
  refine ⟨fun a ha => ?_, fun p hp => ?_, h.2.2⟩
  · have : a ≠ k := fun e => by rw [e, hk] at ha; cases ha
    rw [c_put_ne this]; exact h.1 a ha
  · have h9 := List.all_eq_true.mp hX p hp
    have : p.1 ≠ k := fun e => by
      rw [e, show Nat.beq k k = true from c_beq.mpr rfl] at h9; cases h9
    rw [c_put_ne this]; exact h.2.1 p hp
theorem k_F.puf {S : List Nat} {X : List (Nat × Nat)} {s t : c_S} {k j : Nat} {x : Int32} (h : k_F S X s t) (hk : (c_has S k && X.all (fun p => !(Nat.beq p.1 k && Nat.beq p.2 j))) = true) : k_F S X s (c_put t k j x) := by
  obtain ⟨hk, hX⟩ := (Bool.and_eq_true _ _).mp hk
  refine ⟨fun a ha => ?_, fun p hp => ?_, h.2.2⟩
  · have : a ≠ k := fun e => by rw [e, hk] at ha; cases ha
    rw [c_put_ne this]; exact h.1 a ha
  · have h9 := List.all_eq_true.mp hX p hp
    by_cases hp1 : p.1 = k
    · have hp2 : p.2 ≠ j := fun e => by
        rw [hp1, e, show Nat.beq k k = true from c_beq.mpr rfl, show Nat.beq j j = true from c_beq.mpr rfl] at h9; cases h9
      rw [hp1, c_put_get, if_neg hp2, ← hp1]; exact h.2.1 p hp
    · rw [c_put_ne hp1]; exact h.2.1 p hp
theorem k_in {i m : Int32} {n : Nat} (h0 : ¬ i < 0) (h1 : i < m) (hm : m.toInt ≤ (n : Int)) : c_inb i n = true := by
  obtain ⟨j, hj, rfl⟩ := nI_of h0
  refine decide_eq_true ?_
  intro h
  rcases h with h | h
  · exact h0 h
  · rw [nI_clamp hj] at h
    rw [Int32.lt_iff_toInt_lt, nI_toInt hj] at h1
    omega
theorem k_nn1 {i : Int32} (h : 0 < i) : ¬ i < 0 := by
  rw [Int32.lt_iff_toInt_lt] at h ⊢
  have : (0 : Int32).toInt = 0 := by decide
  omega
theorem k_nn2 {i : Int32} (h : ¬ i < 1) : ¬ i < 0 := by
  rw [Int32.lt_iff_toInt_lt] at h ⊢
  have h0 : (0 : Int32).toInt = 0 := by decide
  have h1 : (1 : Int32).toInt = 1 := by decide
  omega
/-- how far a counter can still go up -/
def k_m (i : Int32) : Nat := (2147483648 - i.toInt).toNat
theorem k_succ {i x : Int32} (h : i < x) : (i + 1).toInt = i.toInt + 1 := by
  rw [Int32.lt_iff_toInt_lt] at h
  have h1 := Int32.toInt_lt x
  have h2 := Int32.le_toInt i
  rw [Int32.toInt_add, show (1 : Int32).toInt = 1 from by decide, Int.bmod_def]
  omega
theorem k_up {i x : Int32} {n : Nat} (h : i < x) (hn : k_m i < n + 1) : k_m (i + 1) < n := by
  have h1 := k_succ h
  rw [Int32.lt_iff_toInt_lt] at h
  have h2 := Int32.toInt_lt x
  unfold k_m at hn ⊢
  rw [h1]
  omega
theorem k_upn {i x : Int32} {n : Nat} (h : ¬ x < i) (hx : x.toInt < 2147483647) (hn : k_m i < n + 1) : k_m (i + 1) < n := by
  have h' : i < x + 1 := by
    have h3 := Int32.le_toInt x
    rw [Int32.lt_iff_toInt_lt] at h ⊢
    rw [Int32.toInt_add, show (1 : Int32).toInt = 1 from by decide, Int.bmod_def]
    omega
  exact k_up h' hn
