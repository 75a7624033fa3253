set_option maxHeartbeats 1000000 in
theorem e_step (κ : Nat → Std.Format) (nc d q : Nat) (hd : 90 ≤ d) (hq : q ≤ 100) (hO : q < 100 → e_O κ nc (d + 1) (q + 1) ∧ e_O κ nc d (q + 1)) : e_O κ nc (d + 3) q := by
  intro C L B W t S y ky k n c e kc ke Γ ρs τ l a b s hv hK hok hfin hY hW ha hb hc he hlen hy hr
  obtain ⟨r1, r2, r3, r4⟩ := id hr
  have ht := hv.1.2.2.2.1.2
  rw [m_Rm_sameObjects, e_Rm_sameObjects_0]
  have no : ∀ r : Int32, (¬ r = 1 ∧ (r = 0 ∨ r = 9 ∨ r = 10)) → k_ok (some (s, r)) (e_P C L B W t q y (e_G C L B t y ρs.length (f_n τ)) s) := fun r h => k_some ⟨v_ex.rf, C, L, B, W, t, S, hv, ⟨Nat.le_refl _, Nat.le_refl _, Nat.le_refl _, Nat.le_refl _, Nat.le_refl _, ht, by omega, by omega, by omega, Nat.le_refl _⟩, Or.inr h⟩
  rcases v_asks (d + 2) (by omega) s hv with h | h | ⟨s1, h, t1, q1, hv1, ex1⟩
  · rw [h, c_bd_some, if_neg (by decide)]
    exact no 10 (by decide)
  · rw [h, c_bd_some, if_neg (by decide)]
    exact no 9 (by decide)
  · obtain ⟨hO1, hO0⟩ := hO q1
    rw [h, c_bd_some, if_pos rfl, m_Rm_sameObjectsAsked, e_Rm_sameObjectsAsked_0]
    refine k_bd (Q := e_A C L B W t q y (e_G C L B t y ρs.length (f_n τ)) s) ?_ (fun s9 x9 g9 => k_some (g9.P hq))
    refine k_bd (w_shows (d + 1) (by omega) ky y k n C L Γ τ l s1 (ex1.K hK) hv1.1.1 hv1.1.2.1 (by omega) (by omega) hy (ex1.Y hY) (ex1.W hW (Nat.le_refl _) (Nat.le_refl _) (Nat.le_refl _) (Nat.le_refl _))) (fun s2 x2 g2 => ?_)
    obtain ⟨C1, L1, hv2, ex2, c1, c2, -, hs⟩ := hv1.sh g2
    have ex12 : v_ex C L B W s s2 := ex1.tr ex2 (Nat.le_refl _) (Nat.le_refl _) (Nat.le_refl _) (Nat.le_refl _)
    have ha2 := ex12.B ha c1 c2 (Nat.le_refl _) (Nat.le_refl _)
    have hb2 := ex12.B hb c1 c2 (Nat.le_refl _) (Nat.le_refl _)
    have hc2 := ex12.W hc (Nat.le_refl _) c1 c2 (Nat.le_refl _)
    have he2 := ex12.W he (Nat.le_refl _) c1 c2 (Nat.le_refl _)
    rcases hs with ⟨rfl, s', ρ, fa, fb, la, lb, Γ1, k1, k2, k3, y', yC, yL, rfl, p43, p44, p45, p46, rfl, pF, pY, pW⟩ | ⟨rfl, yC, yL, hat, -⟩
    · rw [if_neg (by decide), p43, p44, p45, p46]
      exact e_pi κ nc (d + 1) q (by omega) hO1 C L B W t S y C1 L1 y' c e kc ke fa fb k1 k2 k3 (S + 1) Γ1 ρs s' ρ la a b s s2 q1 t1 hv2 (ex12.K hK) ex12 c1 c2 yC yL hok hfin pF pY pW ha2 hb2 hc2 he2 hlen (by omega) hr
    · rw [if_pos rfl]
      exact e_base κ nc d q hd hO0 C L B W t y C1 L1 c e kc ke (S + 1) ρs τ a b s s2 q1 t1 hv2 (ex12.K hK) ex12 c1 c2 yC yL hat ha2 hb2 hc2 he2 (by omega) hr
/-- EQUAL of two objects in the reference: it ends, within its room -/
theorem e_all (κ : Nat → Std.Format) (nc : Nat) : ∀ (m q d : Nat), q ≤ 100 → 100 ≤ q + m → 3 * m + 100 ≤ d → e_O κ nc d q
  | 0, q, d, hq, hm, hd => by
    obtain ⟨d, rfl⟩ : ∃ e, d = e + 3 := ⟨d - 3, by omega⟩
    exact e_step κ nc d q (by omega) hq (fun h => absurd h (by omega))
  | m + 1, q, d, hq, hm, hd => by
    obtain ⟨d, rfl⟩ : ∃ e, d = e + 3 := ⟨d - 3, by omega⟩
    exact e_step κ nc d q (by omega) hq (fun h => ⟨e_all κ nc m (q + 1) (d + 1) (by omega) (by omega) (by omega), e_all κ nc m (q + 1) d (by omega) (by omega) (by omega)⟩)
