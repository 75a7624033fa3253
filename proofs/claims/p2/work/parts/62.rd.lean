/-! the reference reads: states that go on (no fault) and that are done (a fault) -/
def z_nt (s : c_S) : Prop := ∀ i, (∃ p, p < 4002 ∧ s.1 43 i = nI p) ∧ (∃ p, p < 4002 ∧ s.1 44 i = nI p) ∧ (s.1 45 i = -1 ∨ ∃ p, p < 4002 ∧ s.1 45 i = nI p) ∧ (s.1 46 i = -1 ∨ ∃ p, p < 4002 ∧ s.1 46 i = nI p)
def z_G (s : c_S) : Prop := z_pl s ∧ z_fl s ∧ z_nt s
theorem z_G.of {S Y : List Nat} {s t : c_S} (h : z_G s) (f : z_F S Y [] s t) (hS : (!(c_has S 37) && !(c_has S 43) && !(c_has S 44) && !(c_has S 45) && !(c_has S 46)) = true) : z_G t := by
  simp only [Bool.and_eq_true, Bool.not_eq_true'] at hS
  obtain ⟨⟨⟨⟨h1, h2⟩, h3⟩, h4⟩, h5⟩ := hS
  refine ⟨h.1.of (f.1 37 h1 (by decide)), h.2.1.of (f.2.2 38 rfl) (f.2.2 39 rfl), fun i => ?_⟩
  rw [f.1 43 h2 (by decide), f.1 44 h3 (by decide), f.1 45 h4 (by decide), f.1 46 h5 (by decide)]
  exact h.2.2 i
def x_D (M : Nat) (s : c_S) : Prop := z_G s ∧ 0 < s.1 34 9 ∧ ∃ m, m ≤ M ∧ s.1 34 16 = nI m
def x_L (N M m a dd c : Nat) (s : c_S) : Prop := z_G s ∧ (N ≤ 4000 ∧ M ≤ 110000 ∧ s.1 36 N = 0) ∧ s.1 34 9 = 0 ∧ s.1 34 16 = nI m ∧ (s.1 34 8 = nI a ∧ a ≤ N ∧ m + 2 * (N - a) ≤ M) ∧ (s.1 34 18 = nI dd ∧ dd ≤ 41) ∧ (s.1 34 19 = nI c ∧ c ≤ 600)
theorem x_D.of {Y : List Nat} {M : Nat} {s t : c_S} (h : x_D M s) (f : z_F [] Y [] s t) (hY : (!(c_has Y 9) && !(c_has Y 16)) = true) : x_D M t := by
  simp only [Bool.and_eq_true, Bool.not_eq_true'] at hY
  obtain ⟨m, hm, e⟩ := h.2.2
  exact ⟨h.1.of f rfl, by rw [f.2.1 9 hY.1]; exact h.2.1, m, hm, by rw [f.2.1 16 hY.2]; exact e⟩
theorem x_ne0 {x : Int32} (h : 0 < x) : ¬ x = 0 := fun e => by rw [e] at h; exact absurd h (by decide)
theorem x_gt {M : Nat} {s : c_S} (h : x_D M s) : ¬ s.1 34 9 = 0 := x_ne0 h.2.1
theorem x_wrongD (d : Nat) (hd : 1 ≤ d) {M : Nat} (k t : Int32) (s : c_S) (h : x_D M s) : c_M d 25 [v_r 34, v_i k, v_i t] s = some (s, 0) := by
  obtain ⟨d, rfl⟩ : ∃ e, d = e + 1 := ⟨d - 1, by omega⟩
  rw [m_Rm_wrong, e_Rm_wrong_0, if_neg (x_gt h)]
theorem x_fault {k : Int32} {p : Nat} (hk : 1 ≤ k.toInt ∧ k.toInt ≤ 11) (hp : p ≤ 4000) : 0 < k + 16 * nI p := by
  have e1 : ((16 : Int32) * nI p).toInt = 16 * (p : Int) := by
    rw [Int32.toInt_mul, show (16 : Int32).toInt = 16 from by decide, nI_toInt (by omega), Int.bmod_def]; omega
  rw [Int32.lt_iff_toInt_lt, Int32.toInt_add, e1, show (0 : Int32).toInt = 0 from by decide, Int.bmod_def]
  omega
theorem x_wrong (d : Nat) (hd : 1 ≤ d) {M m : Nat} (k : Int32) (hk : 1 ≤ k.toInt ∧ k.toInt ≤ 11) (p : Nat) (hp : p < 4002) (s : c_S) (hG : z_G s) (h0 : s.1 34 9 = 0) (hm : s.1 34 16 = nI m) (hM : m ≤ M) : k_ok (c_M d 25 [v_r 34, v_i k, v_i (nI p)] s) (fun σ _ => z_F [] [9] [] s σ ∧ x_D M σ) := by
  obtain ⟨d, rfl⟩ : ∃ e, d = e + 1 := ⟨d - 1, by omega⟩
  rw [m_Rm_wrong, e_Rm_wrong_0, if_pos h0, c_rg_nI hp (by decide), nI_clamp (show p < 2 ^ 31 by omega)]
  obtain ⟨q, hq, e⟩ := hG.1 p hp
  rw [e]
  have f : z_F [] [9] [] s (c_put s 34 9 (k + 16 * nI q)) := z_F.puf z_F.rf rfl
  exact k_some ⟨f, hG.of f rfl, by rw [c_put_same]; exact x_fault hk hq, m, hM, by rw [f.2.1 16 rfl]; exact hm⟩
theorem x_wrongL (d : Nat) (hd : 1 ≤ d) {N M m a dd c : Nat} (k : Int32) (hk : 1 ≤ k.toInt ∧ k.toInt ≤ 11) (s : c_S) (L : x_L N M m a dd c s) : k_ok (c_M d 25 [v_r 34, v_i k, v_i (s.1 34 8)] s) (fun σ _ => z_F [] [9] [] s σ ∧ x_D M σ) := by
  obtain ⟨hG, h1, h2, h3, h4, h5, h6⟩ := L
  rw [h4.1]
  exact x_wrong d hd k hk a (by omega) s hG h2 h3 (by omega)
theorem x_lt {N M m a dd c : Nat} {s : c_S} (L : x_L N M m a dd c s) (h : ¬ s.1 36 a = 0) : a < N := by
  have h1 := L.2.2.2.2.1.2.1
  by_cases e : a = N
  · rw [e] at h; exact absurd L.2.1.2.2 h
  · omega
theorem x_sign (d : Nat) (hd : 1 ≤ d) {N M m a dd c : Nat} (k : Int32) (s : c_S) (L : x_L N M m a dd c s) : k_ok (c_M d 26 [v_r 34, v_i k] s) (fun σ r => σ = s ∧ c_bz r = true ∧ (¬ r = 0 → a < N)) := by
  obtain ⟨d, rfl⟩ : ∃ e, d = e + 1 := ⟨d - 1, by omega⟩
  have ha := L.2.2.2.2.1
  have hN := L.2.1.1
  rw [m_Rm_isSign, e_Rm_isSign_0, if_pos L.2.2.1, ha.1, c_rg_nI (by omega) (by decide), nI_clamp (show a < 2 ^ 31 by omega)]
  refine k_if (fun h3 => ?_) (fun _ => k_some ⟨rfl, by decide, fun h => absurd rfl h⟩)
  rw [c_rg_nI (by omega) (by decide)]
  exact k_if (fun _ => k_some ⟨rfl, by decide, fun _ => x_lt L (by rw [h3]; decide)⟩) (fun _ => k_some ⟨rfl, by decide, fun h => absurd rfl h⟩)
theorem x_signD (d : Nat) (hd : 1 ≤ d) {M : Nat} (k : Int32) (s : c_S) (h : x_D M s) : c_M d 26 [v_r 34, v_i k] s = some (s, 0) := by
  obtain ⟨d, rfl⟩ : ∃ e, d = e + 1 := ⟨d - 1, by omega⟩
  rw [m_Rm_isSign, e_Rm_isSign_0, if_neg (x_gt h)]
theorem x_isP (d : Nat) (hd : 2 ≤ d) {N M m a dd c : Nat} (s : c_S) (L : x_L N M m a dd c s) : k_ok (c_M d 35 [v_r 34] s) (fun σ r => σ = s ∧ c_bz r = true ∧ (¬ r = 0 → a < N)) := by
  obtain ⟨d, rfl⟩ : ∃ e, d = e + 1 := ⟨d - 1, by omega⟩
  have ha := L.2.2.2.2.1
  have hN := L.2.1.1
  rw [m_Rm_isP, e_Rm_isP_0, if_pos L.2.2.1, ha.1, c_rg_nI (by omega) (by decide), nI_clamp (show a < 2 ^ 31 by omega)]
  refine k_if (fun h3 => k_some ⟨rfl, by decide, fun _ => x_lt L (by rw [h3]; decide)⟩) (fun _ => ?_)
  refine k_bd (x_sign d (by omega) _ s L) (fun s_1 x_1 g_1 => ?_)
  obtain ⟨e1, -, g1⟩ := g_1
  have e1 := e1.symm
  subst e1
  exact k_if (fun _ => k_some ⟨rfl, by decide, fun h => absurd rfl h⟩) (fun hx => k_some ⟨rfl, by decide, fun _ => g1 hx⟩)
theorem x_isPD (d : Nat) (hd : 1 ≤ d) {M : Nat} (s : c_S) (h : x_D M s) : c_M d 35 [v_r 34] s = some (s, 0) := by
  obtain ⟨d, rfl⟩ : ∃ e, d = e + 1 := ⟨d - 1, by omega⟩
  rw [m_Rm_isP, e_Rm_isP_0, if_neg (x_gt h)]
theorem x_isName (d : Nat) (hd : 1 ≤ d) {N M m a dd c : Nat} (s : c_S) (L : x_L N M m a dd c s) : k_ok (c_M d 28 [v_r 34] s) (fun σ r => σ = s ∧ c_bz r = true ∧ (¬ r = 0 → a < N)) := by
  obtain ⟨d, rfl⟩ : ∃ e, d = e + 1 := ⟨d - 1, by omega⟩
  have ha := L.2.2.2.2.1
  have hN := L.2.1.1
  rw [m_Rm_isName, e_Rm_isName_0, if_pos L.2.2.1, ha.1, c_rg_nI (by omega) (by decide), nI_clamp (show a < 2 ^ 31 by omega)]
  refine k_if (fun h3 => ?_) (fun _ => k_some ⟨rfl, by decide, fun h => absurd rfl h⟩)
  have hlt : a < N := x_lt L (by rw [h3]; decide)
  rw [c_rg_nI (by omega) (by decide)]
  refine k_if (fun _ => ?_) (fun _ => k_some ⟨rfl, by decide, fun _ => hlt⟩)
  rw [c_rg_nI (by omega) (by decide)]
  exact k_if (fun _ => k_some ⟨rfl, by decide, fun h => absurd rfl h⟩) (fun _ => k_some ⟨rfl, by decide, fun _ => hlt⟩)
theorem x_isType (d : Nat) (hd : 1 ≤ d) {N M m a dd c : Nat} (s : c_S) (L : x_L N M m a dd c s) : k_ok (c_M d 27 [v_r 34] s) (fun σ r => σ = s ∧ c_bz r = true) := by
  obtain ⟨d, rfl⟩ : ∃ e, d = e + 1 := ⟨d - 1, by omega⟩
  have ha := L.2.2.2.2.1
  have hN := L.2.1.1
  rw [m_Rm_isType, e_Rm_isType_0, if_pos L.2.2.1, ha.1, c_rg_nI (by omega) (by decide), nI_clamp (show a < 2 ^ 31 by omega)]
  refine k_if (fun h3 => ?_) (fun _ => k_some ⟨rfl, by decide⟩)
  rw [c_rg_nI (by omega) (by decide)]
  refine k_if (fun _ => ?_) (fun _ => k_some ⟨rfl, by decide⟩)
  rw [c_rg_nI (by omega) (by decide)]
  exact k_if (fun _ => k_some ⟨rfl, by decide⟩) (fun _ => k_some ⟨rfl, by decide⟩)
/-- moving on in the text -/
theorem x_L.adv {N M m a dd c : Nat} {s : c_S} (L : x_L N M m a dd c s) (h : a < N) : x_L N M m (a + 1) dd c (c_put s 34 8 (nI (a + 1))) := by
  obtain ⟨hG, h1, h2, h3, h4, h5, h6⟩ := L
  have f : z_F [] [8] [] s (c_put s 34 8 (nI (a + 1))) := z_F.puf z_F.rf rfl
  exact ⟨hG.of f rfl, ⟨h1.1, h1.2.1, by rw [f.1 36 rfl (by decide)]; exact h1.2.2⟩, by rw [f.2.1 9 rfl]; exact h2, by rw [f.2.1 16 rfl]; exact h3, ⟨c_put_same, by omega, by omega⟩, ⟨by rw [f.2.1 18 rfl]; exact h5.1, h5.2⟩, ⟨by rw [f.2.1 19 rfl]; exact h6.1, h6.2⟩⟩
theorem x_take (d : Nat) (hd : 2 ≤ d) {N M m a dd c : Nat} (k : Int32) (s : c_S) (L : x_L N M m a dd c s) : k_ok (c_M d 29 [v_r 34, v_i k] s) (fun σ _ => z_F [] [8, 9] [] s σ ∧ (x_D M σ ∨ (a < N ∧ x_L N M m (a + 1) dd c σ))) := by
  obtain ⟨d, rfl⟩ : ∃ e, d = e + 1 := ⟨d - 1, by omega⟩
  rw [m_Rm_takeSign, e_Rm_takeSign_0]
  refine k_bd (x_sign d (by omega) _ s L) (fun s_1 x_1 g_1 => ?_)
  obtain ⟨e1, -, g1⟩ := g_1
  have e1 := e1.symm
  subst e1
  refine k_if (fun _ => ?_) (fun hx => ?_)
  · exact k_bd (x_wrongL d (by omega) 1 (by decide) s L) (fun s_2 x_2 g_2 => k_some ⟨z_F.mono g_2.1 rfl, Or.inl g_2.2⟩)
  · rw [L.2.2.2.2.1.1, nI_1]
    exact k_some ⟨z_F.puf z_F.rf rfl, Or.inr ⟨g1 hx, L.adv (g1 hx)⟩⟩
theorem x_takeD (d : Nat) (hd : 2 ≤ d) {M : Nat} (k : Int32) (s : c_S) (h : x_D M s) : c_M d 29 [v_r 34, v_i k] s = some (s, 0) := by
  obtain ⟨d, rfl⟩ : ∃ e, d = e + 1 := ⟨d - 1, by omega⟩
  rw [m_Rm_takeSign, e_Rm_takeSign_0, x_signD d (by omega) _ s h, c_bd_some, if_pos rfl, x_wrongD d (by omega) _ _ s h, c_bd_some]
theorem x_within (d : Nat) (hd : 2 ≤ d) {N M m a dd c : Nat} (s : c_S) (L : x_L N M m a dd c s) : k_ok (c_M d 32 [v_r 34] s) (fun σ _ => z_F [] [9, 18] [] s σ ∧ (x_D M σ ∨ (dd < 40 ∧ x_L N M m a (dd + 1) c σ) ∨ (dd = 41 ∧ x_L N M m a dd c s))) := by
  obtain ⟨d, rfl⟩ : ∃ e, d = e + 1 := ⟨d - 1, by omega⟩
  obtain ⟨hG, h1, h2, h3, h4, h5, h6⟩ := id L
  rw [m_Rm_within, e_Rm_within_0, if_pos h2, h5.1]
  refine k_if (fun h40 => ?_) (fun h40 => ?_)
  · refine k_bd (x_wrongL d (by omega) 5 (by decide) s L) (fun s_1 x_1 g_1 => ?_)
    have f : z_F [] [18] [] s_1 (c_put s_1 34 18 (s_1.1 34 18 + 1)) := z_F.puf z_F.rf rfl
    exact k_some ⟨z_F.tr (z_F.mono g_1.1 rfl) (z_F.mono f rfl), Or.inl (g_1.2.of f rfl)⟩
  · have hne : dd ≠ 40 := fun e => h40 (by rw [e]; rfl)
    rw [nI_1]
    have f : z_F [] [18] [] s (c_put s 34 18 (nI (dd + 1))) := z_F.puf z_F.rf rfl
    by_cases h41 : dd = 41
    · exact k_some ⟨z_F.mono f rfl, Or.inr (Or.inr ⟨h41, L⟩)⟩
    · exact k_some ⟨z_F.mono f rfl, Or.inr (Or.inl ⟨by omega, hG.of f rfl, ⟨h1.1, h1.2.1, by rw [f.1 36 rfl (by decide)]; exact h1.2.2⟩, by rw [f.2.1 9 rfl]; exact h2, by rw [f.2.1 16 rfl]; exact h3, ⟨by rw [f.2.1 8 rfl]; exact h4.1, h4.2⟩, ⟨c_put_same, by omega⟩, ⟨by rw [f.2.1 19 rfl]; exact h6.1, h6.2⟩⟩)⟩
theorem x_withinD (d : Nat) (hd : 1 ≤ d) {M : Nat} (s : c_S) (h : x_D M s) : k_ok (c_M d 32 [v_r 34] s) (fun σ _ => z_F [] [18] [] s σ ∧ x_D M σ) := by
  obtain ⟨d, rfl⟩ : ∃ e, d = e + 1 := ⟨d - 1, by omega⟩
  rw [m_Rm_within, e_Rm_within_0, if_neg (x_gt h)]
  have f : z_F [] [18] [] s (c_put s 34 18 (s.1 34 18 + 1)) := z_F.puf z_F.rf rfl
  exact k_some ⟨f, h.of f rfl⟩
theorem x_counts (d : Nat) (hd : 2 ≤ d) {N M m a dd c : Nat} (s : c_S) (L : x_L N M m a dd c s) : k_ok (c_M d 33 [v_r 34] s) (fun σ _ => z_F [] [9, 19] [] s σ ∧ (x_D M σ ∨ (c < 600 ∧ x_L N M m a dd (c + 1) σ))) := by
  obtain ⟨d, rfl⟩ : ∃ e, d = e + 1 := ⟨d - 1, by omega⟩
  obtain ⟨hG, h1, h2, h3, h4, h5, h6⟩ := id L
  rw [m_Rm_counts, e_Rm_counts_0, if_pos h2, h6.1]
  refine k_if (fun h40 => ?_) (fun h40 => ?_)
  · refine k_bd (x_wrongL d (by omega) 5 (by decide) s L) (fun s_1 x_1 g_1 => ?_)
    have f : z_F [] [19] [] s_1 (c_put s_1 34 19 (s_1.1 34 19 + 1)) := z_F.puf z_F.rf rfl
    exact k_some ⟨z_F.tr (z_F.mono g_1.1 rfl) (z_F.mono f rfl), Or.inl (g_1.2.of f rfl)⟩
  · have hne : c ≠ 600 := fun e => h40 (by rw [e]; rfl)
    rw [nI_1]
    have f : z_F [] [19] [] s (c_put s 34 19 (nI (c + 1))) := z_F.puf z_F.rf rfl
    exact k_some ⟨z_F.mono f rfl, Or.inr ⟨by omega, hG.of f rfl, ⟨h1.1, h1.2.1, by rw [f.1 36 rfl (by decide)]; exact h1.2.2⟩, by rw [f.2.1 9 rfl]; exact h2, by rw [f.2.1 16 rfl]; exact h3, ⟨by rw [f.2.1 8 rfl]; exact h4.1, h4.2⟩, ⟨by rw [f.2.1 18 rfl]; exact h5.1, h5.2⟩, ⟨c_put_same, by omega⟩⟩⟩
theorem x_countsD (d : Nat) (hd : 1 ≤ d) {M : Nat} (s : c_S) (h : x_D M s) : k_ok (c_M d 33 [v_r 34] s) (fun σ _ => z_F [] [19] [] s σ ∧ x_D M σ) := by
  obtain ⟨d, rfl⟩ : ∃ e, d = e + 1 := ⟨d - 1, by omega⟩
  rw [m_Rm_counts, e_Rm_counts_0, if_neg (x_gt h)]
  have f : z_F [] [19] [] s (c_put s 34 19 (s.1 34 19 + 1)) := z_F.puf z_F.rf rfl
  exact k_some ⟨f, h.of f rfl⟩
