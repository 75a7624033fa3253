/-- what a family is without its objects is told by its node alone -/
theorem o_h_det {σ : c_S} : ∀ (k k' n c c' : Nat), c < 1000 → c' < 1000 → n < 120000 → o_h σ k n c → o_h σ k' n c' → c = c'
  | 0, _, _, _, _, _, _, _, h, _ => h.elim
  | k + 1, 0, _, _, _, _, _, _, _, h => h.elim
  | k + 1, k' + 1, n, c, c', h1, h2, hn, h, h' => by
    rcases h with ⟨e, e2⟩ | ⟨e, a, a1, a2, a3⟩
    · rcases h' with ⟨f, f2⟩ | ⟨f, -⟩
      · rw [e2] at f2; exact (nI_eq (by omega) (by omega)).mp f2
      · rw [e] at f; exact absurd f (by decide)
    · rcases h' with ⟨f, -⟩ | ⟨f, b, b1, b2, b3⟩
      · rw [e] at f; exact absurd f (by decide)
      · rw [a2] at b2
        have : a = b := (nI_eq (by omega) (by omega)).mp b2
        subst this
        exact o_h_det k k' a c c' h1 h2 (by omega) a3 b3
theorem o_F_det {σ : c_S} {κ : Nat → Std.Format} {nc : Nat} (hnc : nc ≤ 100) : ∀ (k k' h h' : Nat) (Γ Γ' : List Std.Format) (n : Nat) (τ τ' : Std.Format), o_F σ κ nc k h Γ n τ → o_F σ κ nc k' h' Γ' n τ' → τ = τ'
  | 0, _, _, _, _, _, _, _, _, hx, _ => hx.elim
  | k + 1, 0, _, _, _, _, _, _, _, _, hx => hx.elim
  | k + 1, k' + 1, h, h', Γ, Γ', n, τ, τ', hx, hy => by
    obtain ⟨hn, hx⟩ := hx
    obtain ⟨-, hy⟩ := hy
    rcases hx with ⟨e, a, b, h0, s, r, q1, q2, q3, q4, q5, q6, q7, q8⟩ | ⟨e, c, kk, h2, c0, c1, c2, c3, c4⟩ | ⟨e, e2⟩
    · rcases hy with ⟨f, a', b', h0', s', r', p1, p2, p3, p4, p5, p6, p7, p8⟩ | ⟨f | f, -⟩ | ⟨f, -⟩
      · rw [q2] at p2
        rw [q3] at p3
        have ea : a = a' := (nI_eq (by omega) (by omega)).mp p2
        have eb : b = b' := (nI_eq (by omega) (by omega)).mp p3
        subst ea eb
        have e1 := o_F_det hnc k k' h0 h0' Γ Γ' a s s' q7 p7
        have e2 := o_F_det hnc k k' h0 h0' (s :: Γ) (s' :: Γ') b r r' q8 p8
        rw [q6.1, p6.1, e1, e2]
      · rw [e] at f; exact absurd f (by decide)
      · rw [e] at f; exact absurd f (by decide)
      · rw [e] at f; exact absurd f (by decide)
    · rcases hy with ⟨f, -⟩ | ⟨f, c', kk', h2', c0', c1', c2', c3', c4'⟩ | ⟨f, -⟩
      · rcases e with e | e <;> (rw [e] at f; exact absurd f (by decide))
      · rw [c2, c2', o_h_det kk kk' n c c' (by omega) (by omega) hn c4 c4']
      · rcases e with e | e <;> (rw [e] at f; exact absurd f (by decide))
    · rcases hy with ⟨f, -⟩ | ⟨f | f, -⟩ | ⟨f, f2⟩
      · rw [e] at f; exact absurd f (by decide)
      · rw [e] at f; exact absurd f (by decide)
      · rw [e] at f; exact absurd f (by decide)
      · rw [e2, f2]
theorem f_l_app : ∀ (xs : List Std.Format) (s ρ : Std.Format), f_l (xs ++ [s]) ρ = f_l xs (f_a s ρ)
  | [], _, _ => rfl
  | x :: xs, s, ρ => by show f_a x (f_l (xs ++ [s]) ρ) = _; rw [f_l_app xs s ρ]; rfl
theorem f_fin_at {τ : Std.Format} (h : f_fin τ) (h0 : f_n τ = 0) : ∃ c, τ = f_b c := by
  cases τ with
  | append a b => rw [show f_n (.append a b) = f_n b + 1 from rfl] at h0; omega
  | tag c f =>
    cases f with
    | nil => exact ⟨c, rfl⟩
    | _ => exact h.elim
  | _ => exact h.elim
