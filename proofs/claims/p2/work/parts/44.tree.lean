/-! trees of the class's nodes (cells 4 to 7: kinds, lefts, rights, siblings) -/
def t_path (σ : c_S) : Int32 → List Nat → Prop
  | x, [] => x = 0
  | x, p :: ps => x = nI p ∧ 0 < p ∧ p < 12800 ∧ t_path σ (σ.1 7 p) ps
def t_r (σ : c_S) : Nat → Nat → Nat → Prop
  | 0, _, n => n = 0
  | k + 1, lo, n => n = 0 ∨ (lo ≤ n ∧ n < 12800 ∧
      ((σ.1 4 n = 2 ∨ σ.1 4 n = 3) → ∃ a b, σ.1 5 n = nI a ∧ σ.1 6 n = nI b ∧ a < n ∧ b < n ∧ t_r σ k lo a ∧ t_r σ k lo b) ∧
      (σ.1 4 n = 7 → ∃ a ps, σ.1 5 n = nI a ∧ a < n ∧ t_r σ k lo a ∧ t_path σ (σ.1 6 n) ps ∧ ∀ p ∈ ps, p < n ∧ t_r σ k lo p) ∧
      (σ.1 4 n = 5 → σ.1 6 n = 0))
theorem t_path_pos {σ : c_S} : ∀ {ps : List Nat} {x : Int32}, t_path σ x ps → ∀ p ∈ ps, 0 < p ∧ p < 12800
  | [], _, _, p, hp => by cases hp
  | q :: ps, x, h, p, hp => by
    rcases List.mem_cons.mp hp with rfl | hp
    · exact ⟨h.2.1, h.2.2.1⟩
    · exact t_path_pos h.2.2.2 p hp
theorem t_path_fr {σ σ' : c_S} : ∀ {ps : List Nat} {x : Int32}, (∀ p ∈ ps, σ'.1 7 p = σ.1 7 p) → t_path σ x ps → t_path σ' x ps
  | [], _, _, h => h
  | q :: ps, x, hs, h => by
    refine ⟨h.1, h.2.1, h.2.2.1, ?_⟩
    rw [hs q List.mem_cons_self]
    exact t_path_fr (fun p hp => hs p (List.mem_cons_of_mem _ hp)) h.2.2.2
theorem t_r_lo {σ : c_S} {k lo n : Nat} (h : t_r σ k lo n) (hn : n ≠ 0) : lo ≤ n ∧ n < 12800 := by
  cases k with
  | zero => exact absurd h hn
  | succ k => exact ⟨(h.resolve_left hn).1, (h.resolve_left hn).2.1⟩
theorem t_r_0 {σ : c_S} {k lo : Nat} : t_r σ k lo 0 := by
  cases k with
  | zero => exact rfl
  | succ k => exact Or.inl rfl
theorem t_r_fr {σ σ' : c_S} {lo : Nat} : ∀ (k n : Nat), (∀ m, lo ≤ m → m ≤ n → σ'.1 4 m = σ.1 4 m ∧ σ'.1 5 m = σ.1 5 m ∧ σ'.1 6 m = σ.1 6 m) → (∀ m, lo ≤ m → m < n → σ'.1 7 m = σ.1 7 m) → t_r σ k lo n → t_r σ' k lo n
  | 0, _, _, _, h => h
  | k + 1, n, h1, h2, h => by
    rcases h with h | ⟨hlo, hn, ha, hb, hc⟩
    · exact Or.inl h
    · obtain ⟨e4, e5, e6⟩ := h1 n hlo (Nat.le_refl _)
      refine Or.inr ⟨hlo, hn, ?_, ?_, ?_⟩
      · rw [e4, e5, e6]
        intro hk
        obtain ⟨a, b, q1, q2, q3, q4, q5, q6⟩ := ha hk
        exact ⟨a, b, q1, q2, q3, q4, t_r_fr k a (fun m hm hm2 => h1 m hm (by omega)) (fun m hm hm2 => h2 m hm (by omega)) q5, t_r_fr k b (fun m hm hm2 => h1 m hm (by omega)) (fun m hm hm2 => h2 m hm (by omega)) q6⟩
      · rw [e4, e5, e6]
        intro hk
        obtain ⟨a, ps, q1, q2, q3, q4, q5⟩ := hb hk
        refine ⟨a, ps, q1, q2, t_r_fr k a (fun m hm hm2 => h1 m hm (by omega)) (fun m hm hm2 => h2 m hm (by omega)) q3, t_path_fr (fun p hp => ?_) q4, fun p hp => ⟨(q5 p hp).1, t_r_fr k p (fun m hm hm2 => h1 m hm (by have := (q5 p hp).1; omega)) (fun m hm hm2 => h2 m hm (by have := (q5 p hp).1; omega)) (q5 p hp).2⟩⟩
        have := t_path_pos q4 p hp
        exact h2 p (t_r_lo (q5 p hp).2 (by omega)).1 (q5 p hp).1
      · rw [e4, e6]; exact hc
theorem t_r_up {σ : c_S} : ∀ (k k' lo lo' n : Nat), k ≤ k' → lo' ≤ lo → t_r σ k lo n → t_r σ k' lo' n
  | 0, k', lo, lo', n, _, _, h => by
    have h : n = 0 := h
    subst h; exact t_r_0
  | k + 1, 0, lo, lo', n, hk, _, _ => absurd hk (by omega)
  | k + 1, k' + 1, lo, lo', n, hk, hl, h => by
    rcases h with h | ⟨hlo, hn, ha, hb, hc⟩
    · exact Or.inl h
    · refine Or.inr ⟨by omega, hn, fun h2 => ?_, fun h2 => ?_, hc⟩
      · obtain ⟨a, b, q1, q2, q3, q4, q5, q6⟩ := ha h2
        exact ⟨a, b, q1, q2, q3, q4, t_r_up k k' lo lo' a (by omega) hl q5, t_r_up k k' lo lo' b (by omega) hl q6⟩
      · obtain ⟨a, ps, q1, q2, q3, q4, q5⟩ := hb h2
        exact ⟨a, ps, q1, q2, t_r_up k k' lo lo' a (by omega) hl q3, q4, fun p hp => ⟨(q5 p hp).1, t_r_up k k' lo lo' p (by omega) hl (q5 p hp).2⟩⟩
/-- what was below T is as it was -/
def r_old (T : Nat) (s σ : c_S) : Prop := ∀ m, m < T → σ.1 4 m = s.1 4 m ∧ σ.1 5 m = s.1 5 m ∧ σ.1 6 m = s.1 6 m ∧ σ.1 7 m = s.1 7 m
theorem r_old.rf {T : Nat} {s : c_S} : r_old T s s := fun _ _ => ⟨rfl, rfl, rfl, rfl⟩
theorem r_old.tr {T : Nat} {s t u : c_S} (h : r_old T s t) (k : r_old T t u) : r_old T s u := fun m hm => by
  obtain ⟨a, b, c, d⟩ := h m hm
  obtain ⟨a', b', c', d'⟩ := k m hm
  exact ⟨a'.trans a, b'.trans b, c'.trans c, d'.trans d⟩
theorem r_old.le {T T' : Nat} {s t : c_S} (h : r_old T s t) (hT : T' ≤ T) : r_old T' s t := fun m hm => h m (by omega)
theorem t_r_old {s σ : c_S} {k lo n T : Nat} (h : t_r s k lo n) (hn : n < T) (ho : r_old T s σ) : t_r σ k lo n :=
  t_r_fr k n (fun m _ hm => ⟨(ho m (by omega)).1, (ho m (by omega)).2.1, (ho m (by omega)).2.2.1⟩) (fun m _ hm => (ho m (by omega)).2.2.2) h
/-- what only moves on the TAPE, and in the reader's own fields -/
def r_q (s t : c_S) : Prop := k_F [1, 10, 27, 28, 29] [(1, 1), (27, 10), (27, 11)] s t
theorem r_q.tr {s t u : c_S} (h : r_q s t) (k : r_q t u) : r_q s u := k_F.tr h k
theorem r_q.old {T : Nat} {s t : c_S} (h : r_q s t) : r_old T s t := fun m _ => by
  rw [h.1 4 rfl, h.1 5 rfl, h.1 6 rfl, h.1 7 rfl]; exact ⟨rfl, rfl, rfl, rfl⟩
theorem r_q.top {s t : c_S} (h : r_q s t) : t.1 3 7 = s.1 3 7 := by rw [h.1 3 rfl]
/-- an answer of the reader: a tree of what was made since lo, or none -/
def r_Q (K lo T : Nat) (s σ : c_S) (r : Int32) : Prop := k_F [1, 3, 4, 5, 6, 7, 8, 9, 10, 27, 28, 29] [(1, 1), (27, 10), (27, 11)] s σ ∧ σ.1 27 5 = s.1 27 5 ∧ ∃ T' n, σ.1 3 7 = nI T' ∧ T ≤ T' ∧ T' ≤ 12800 ∧ r = nI n ∧ n < T' ∧ t_r σ K lo n ∧ (n ≠ 0 → σ.1 7 n = 0) ∧ r_old lo s σ
theorem r_Q.zero {K lo T : Nat} {s σ : c_S} (h : r_q s σ) (hsc : σ.1 27 5 = s.1 27 5) (hT : s.1 3 7 = nI T) (h1 : 1 ≤ T) (h2 : T ≤ 12800) : r_Q K lo T s σ 0 :=
  ⟨k_F.mono h rfl, hsc, T, 0, by rw [h.top]; exact hT, Nat.le_refl _, h2, rfl, h1, t_r_0, fun h => absurd rfl h, h.old⟩
theorem r_Q.pre {K lo T : Nat} {s s1 σ : c_S} {r : Int32} (h : r_q s s1) (hsc : s1.1 27 5 = s.1 27 5) (g : r_Q K lo T s1 σ r) : r_Q K lo T s σ r := by
  obtain ⟨g1, g2, T', n, e1, e2, e3, e4, e5, e6, e7, e8⟩ := g
  exact ⟨k_F.tr (k_F.mono h rfl) g1, g2.trans hsc, T', n, e1, e2, e3, e4, e5, e6, e7, h.old.tr e8⟩
theorem r_Q.post {K lo T : Nat} {s σ σ1 : c_S} {r : Int32} (g : r_Q K lo T s σ r) (h : r_q σ σ1) (hsc : σ1.1 27 5 = σ.1 27 5) (hlo : lo ≤ T) : r_Q K lo T s σ1 r := by
  obtain ⟨g1, g2, T', n, e1, e2, e3, e4, e5, e6, e7, e8⟩ := g
  exact ⟨k_F.tr g1 (k_F.mono h rfl), hsc.trans g2, T', n, by rw [h.top]; exact e1, e2, e3, e4, e5, t_r_old e6 e5 h.old, fun hn => by rw [h.1 7 rfl]; exact e7 hn, e8.tr h.old⟩
theorem r_Q.up {K K' lo lo' T T' : Nat} {s σ : c_S} {r : Int32} (g : r_Q K lo T s σ r) (hK : K ≤ K') (hlo : lo' ≤ lo) (hT : T' ≤ T) : r_Q K' lo' T' s σ r := by
  obtain ⟨g1, g2, T2, n, e1, e2, e3, e4, e5, e6, e7, e8⟩ := g
  exact ⟨g1, g2, T2, n, e1, by omega, e3, e4, e5, t_r_up _ _ _ _ _ hK hlo e6, e7, e8.le hlo⟩
