/-! simple types: .tag c .nil a family c, .append an arrow, .nil the word type -/
def f_b (c : Nat) : Std.Format := .tag c .nil
def f_a (a b : Std.Format) : Std.Format := .append a b
def f_t : Std.Format := .nil
def f_n : Std.Format → Nat
  | .append _ b => f_n b + 1
  | _ => 0
/-- what is left is a family -/
def f_fin : Std.Format → Prop
  | .append _ b => f_fin b
  | .tag _ .nil => True
  | _ => False
/-- no object behind a head wants more than 37, each is of a family -/
def f_ok : Std.Format → Prop
  | .append a b => (f_n a ≤ 37 ∧ f_fin a) ∧ f_ok a ∧ f_ok b
  | _ => True
def f_at (τ : Std.Format) : Prop := ∀ a b, τ ≠ f_a a b
def f_l : List Std.Format → Std.Format → Std.Format
  | [], β => β
  | τ :: τs, β => f_a τ (f_l τs β)
theorem f_a_inj {a b c d : Std.Format} (h : f_a a b = f_a c d) : a = c ∧ b = d := by
  unfold f_a at h; cases h; exact ⟨rfl, rfl⟩
theorem f_b_at (c : Nat) : f_at (f_b c) := fun a b h => by unfold f_b f_a at h; cases h
theorem f_t_at : f_at f_t := fun a b h => by unfold f_t f_a at h; cases h
theorem f_at_n {τ : Std.Format} (h : f_at τ) : f_n τ = 0 := by
  cases τ with
  | append a b => exact absurd rfl (h a b)
  | _ => rfl
theorem f_n_a (a b : Std.Format) : f_n (f_a a b) = f_n b + 1 := rfl
theorem f_l_n {β : Std.Format} (h : f_at β) : ∀ τs : List Std.Format, f_n (f_l τs β) = τs.length
  | [] => f_at_n h
  | τ :: τs => by show f_n (f_l τs β) + 1 = _; rw [f_l_n h τs]; rfl
theorem f_l_inj {β γ : Std.Format} (hβ : f_at β) (hγ : f_at γ) : ∀ {xs ys : List Std.Format}, f_l xs β = f_l ys γ → xs = ys ∧ β = γ
  | [], [], h => ⟨rfl, h⟩
  | [], y :: ys, h => absurd h (hβ _ _)
  | x :: xs, [], h => absurd h.symm (hγ _ _)
  | x :: xs, y :: ys, h => by
    obtain ⟨h1, h2⟩ := f_a_inj h
    obtain ⟨h3, h4⟩ := f_l_inj hβ hγ h2
    exact ⟨by rw [h1, h3], h4⟩
/-- an object's node: of the type τ in the context Γ; h bounds its [ ] within one another -/
def o_T (σ : c_S) (κ : Nat → Std.Format) (nc : Nat) : Nat → Nat → List Std.Format → Nat → Std.Format → Prop
  | 0, _, _, _, _ => False
  | k + 1, h, Γ, n, τ => n < 120000 ∧
      ((σ.1 40 n = 2 ∧ ∃ i, i < 64 ∧ σ.1 41 n = nI i ∧ Γ[i]? = some τ) ∨
       (σ.1 40 n = 3 ∧ ∃ c, σ.1 41 n = nI c ∧ c < nc ∧ τ = κ c) ∨
       (σ.1 40 n = 4 ∧ ∃ b h' s r, h = h' + 1 ∧ σ.1 42 n = nI b ∧ b < n ∧ τ = f_a s r ∧ (f_n s ≤ 37 ∧ f_fin s) ∧ f_ok s ∧ o_T σ κ nc k h' (s :: Γ) b r) ∨
       (σ.1 40 n = 6 ∧ ∃ a b s, σ.1 41 n = nI a ∧ σ.1 42 n = nI b ∧ a < n ∧ b < n ∧ o_T σ κ nc k h Γ a (f_a s τ) ∧ o_T σ κ nc k h Γ b s))
/-- the constant at the head of a family with objects -/
def o_h (σ : c_S) : Nat → Nat → Nat → Prop
  | 0, _, _ => False
  | k + 1, n, c => (σ.1 40 n = 3 ∧ σ.1 41 n = nI c) ∨ (σ.1 40 n = 6 ∧ ∃ a, a < n ∧ σ.1 41 n = nI a ∧ o_h σ k a c)
/-- a family's (a KIND's) node: τ is what is left of it without its objects -/
def o_F (σ : c_S) (κ : Nat → Std.Format) (nc : Nat) : Nat → Nat → List Std.Format → Nat → Std.Format → Prop
  | 0, _, _, _, _ => False
  | k + 1, h, Γ, n, τ => n < 120000 ∧
      ((σ.1 40 n = 5 ∧ ∃ a b h' s r, h = h' + 1 ∧ σ.1 41 n = nI a ∧ σ.1 42 n = nI b ∧ a < n ∧ b < n ∧ (τ = f_a s r ∧ f_fin s) ∧ o_F σ κ nc k h' Γ a s ∧ o_F σ κ nc k h' (s :: Γ) b r) ∨
       ((σ.1 40 n = 3 ∨ σ.1 40 n = 6) ∧ ∃ c kk hh, hh ≤ 38 ∧ c < nc ∧ τ = f_b c ∧ o_T σ κ nc kk hh Γ n f_t ∧ o_h σ kk n c) ∨
       (σ.1 40 n = 1 ∧ τ = f_t))
theorem o_F_ok {σ : c_S} {κ : Nat → Std.Format} {nc : Nat} : ∀ (k h : Nat) (Γ : List Std.Format) (n : Nat) (τ : Std.Format), h ≤ 38 → o_F σ κ nc k h Γ n τ → f_n τ ≤ h ∧ f_ok τ
  | 0, _, _, _, _, _, hx => hx.elim
  | k + 1, h, Γ, n, τ, hh, hx => by
    obtain ⟨-, hx⟩ := hx
    rcases hx with ⟨-, a, b, h', s, r, rfl, -, -, -, -, ⟨rfl, hfin⟩, ha, hb⟩ | ⟨-, c, kk, h2, -, -, rfl, -, -⟩ | ⟨-, rfl⟩
    · obtain ⟨a1, a2⟩ := o_F_ok k h' Γ a s (by omega) ha
      obtain ⟨b1, b2⟩ := o_F_ok k h' (s :: Γ) b r (by omega) hb
      refine ⟨?_, ⟨?_, hfin⟩, a2, b2⟩
      · rw [f_n_a]; omega
      · omega
    · exact ⟨Nat.zero_le _, trivial⟩
    · exact ⟨Nat.zero_le _, trivial⟩
/-- what wants a head: at most 38 and its own [ ] -/
theorem o_T_ok {σ : c_S} {κ : Nat → Std.Format} {nc : Nat} (hκ : ∀ c, c < nc → f_n (κ c) ≤ 38 ∧ f_ok (κ c)) : ∀ (k h : Nat) (Γ : List Std.Format) (n : Nat) (τ : Std.Format), (∀ x ∈ Γ, (f_n x ≤ 37 ∧ f_fin x) ∧ f_ok x) → o_T σ κ nc k h Γ n τ → f_n τ ≤ h + 38 ∧ f_ok τ
  | 0, _, _, _, _, _, hx => hx.elim
  | k + 1, h, Γ, n, τ, hΓ, hx => by
    obtain ⟨-, hx⟩ := hx
    rcases hx with ⟨-, i, -, -, e⟩ | ⟨-, c, -, hc, rfl⟩ | ⟨-, b, h', s, r, rfl, -, -, rfl, s1, s2, hb⟩ | ⟨-, a, b, s, -, -, -, -, ha, hb⟩
    · have := hΓ τ (List.mem_of_getElem? e); exact ⟨by omega, this.2⟩
    · have := hκ c hc; exact ⟨by omega, this.2⟩
    · obtain ⟨b1, b2⟩ := o_T_ok hκ k h' (s :: Γ) b r (fun x hx => by
        rcases List.mem_cons.mp hx with rfl | hx
        · exact ⟨s1, s2⟩
        · exact hΓ x hx) hb
      exact ⟨by rw [f_n_a]; omega, s1, s2, b2⟩
    · obtain ⟨a1, a2⟩ := o_T_ok hκ k h Γ a (f_a s τ) hΓ ha
      rw [f_n_a] at a1
      exact ⟨by omega, a2.2.2⟩
/-- two states have the same nodes, but for NAMES that were not found yet -/
def o_ag (σ σ' : c_S) : Prop := ∀ n, n < 120000 → ¬ σ.1 40 n = 0 → σ'.1 40 n = σ.1 40 n ∧ σ'.1 41 n = σ.1 41 n ∧ σ'.1 42 n = σ.1 42 n
theorem o_ag.rf {σ : c_S} : o_ag σ σ := fun _ _ _ => ⟨rfl, rfl, rfl⟩
theorem o_ag.tr {σ τ ρ : c_S} (h : o_ag σ τ) (k : o_ag τ ρ) : o_ag σ ρ := fun n hn h0 => by
  obtain ⟨a, b, c⟩ := h n hn h0
  obtain ⟨a', b', c'⟩ := k n hn (by rw [a]; exact h0)
  exact ⟨a'.trans a, b'.trans b, c'.trans c⟩
theorem o_ag.of {S Y L : List Nat} {s t : c_S} (f : z_F S Y L s t) (hS : (!(c_has S 40) && !(c_has S 41) && !(c_has S 42)) = true) : o_ag s t := by
  simp only [Bool.and_eq_true, Bool.not_eq_true'] at hS
  exact fun n _ _ => by rw [f.1 40 hS.1.1 (by decide), f.1 41 hS.1.2 (by decide), f.1 42 hS.2 (by decide)]; exact ⟨rfl, rfl, rfl⟩
theorem o_T_ag {σ σ' : c_S} (h : o_ag σ σ') {κ : Nat → Std.Format} {nc : Nat} : ∀ (k hh : Nat) (Γ : List Std.Format) (n : Nat) (τ : Std.Format), o_T σ κ nc k hh Γ n τ → o_T σ' κ nc k hh Γ n τ
  | 0, _, _, _, _, hx => hx.elim
  | k + 1, hh, Γ, n, τ, hx => by
    obtain ⟨hn, hx⟩ := hx
    refine ⟨hn, ?_⟩
    rcases hx with ⟨e, i, i1, i2, i3⟩ | ⟨e, c, c1, c2, c3⟩ | ⟨e, b, h', s, r, q1, q2, q3, q4, q5, q6, q7⟩ | ⟨e, a, b, s, q1, q2, q3, q4, q5, q6⟩
    · obtain ⟨e0, e1, e2⟩ := h n hn (by rw [e]; decide)
      exact Or.inl ⟨e0.trans e, i, i1, e1.trans i2, i3⟩
    · obtain ⟨e0, e1, e2⟩ := h n hn (by rw [e]; decide)
      exact Or.inr (Or.inl ⟨e0.trans e, c, e1.trans c1, c2, c3⟩)
    · obtain ⟨e0, e1, e2⟩ := h n hn (by rw [e]; decide)
      exact Or.inr (Or.inr (Or.inl ⟨e0.trans e, b, h', s, r, q1, e2.trans q2, q3, q4, q5, q6, o_T_ag h k h' _ b r q7⟩))
    · obtain ⟨e0, e1, e2⟩ := h n hn (by rw [e]; decide)
      exact Or.inr (Or.inr (Or.inr ⟨e0.trans e, a, b, s, e1.trans q1, e2.trans q2, q3, q4, o_T_ag h k hh Γ a _ q5, o_T_ag h k hh Γ b _ q6⟩))
theorem o_h_ag {σ σ' : c_S} (h : o_ag σ σ') : ∀ (k n c : Nat), n < 120000 → o_h σ k n c → o_h σ' k n c
  | 0, _, _, _, hx => hx.elim
  | k + 1, n, c, hn, hx => by
    rcases hx with ⟨e, e2⟩ | ⟨e, a, a1, a2, a3⟩
    · obtain ⟨e0, e1, -⟩ := h n hn (by rw [e]; decide)
      exact Or.inl ⟨e0.trans e, e1.trans e2⟩
    · obtain ⟨e0, e1, -⟩ := h n hn (by rw [e]; decide)
      exact Or.inr ⟨e0.trans e, a, a1, e1.trans a2, o_h_ag h k a c (by omega) a3⟩
theorem o_F_ag {σ σ' : c_S} (h : o_ag σ σ') {κ : Nat → Std.Format} {nc : Nat} : ∀ (k hh : Nat) (Γ : List Std.Format) (n : Nat) (τ : Std.Format), o_F σ κ nc k hh Γ n τ → o_F σ' κ nc k hh Γ n τ
  | 0, _, _, _, _, hx => hx.elim
  | k + 1, hh, Γ, n, τ, hx => by
    obtain ⟨hn, hx⟩ := hx
    refine ⟨hn, ?_⟩
    rcases hx with ⟨e, a, b, h', s, r, q1, q2, q3, q4, q5, q6, q7, q8⟩ | ⟨e, c, kk, h2, c0, c1, c2, c3, c4⟩ | ⟨e, e2⟩
    · obtain ⟨e0, e1, e2⟩ := h n hn (by rw [e]; decide)
      exact Or.inl ⟨e0.trans e, a, b, h', s, r, q1, e1.trans q2, e2.trans q3, q4, q5, q6, o_F_ag h k h' Γ a s q7, o_F_ag h k h' _ b r q8⟩
    · obtain ⟨e0, e1, e2⟩ := h n hn (by rcases e with e | e <;> (rw [e]; decide))
      exact Or.inr (Or.inl ⟨by rw [e0]; exact e, c, kk, h2, c0, c1, c2, o_T_ag h kk h2 Γ n _ c3, o_h_ag h kk n c hn c4⟩)
    · obtain ⟨e0, -, -⟩ := h n hn (by rw [e]; decide)
      exact Or.inr (Or.inr ⟨e0.trans e, e2⟩)
