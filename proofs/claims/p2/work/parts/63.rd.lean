/-! trees as the reference reads them: g how deep, h how many { }, [ ] within one another, w how many P behind others -/
/-- a head that is a { } or [ ] stands in brackets -/
def x_hb (σ : c_S) (a : Nat) : Prop := (σ.1 40 a = 4 ∨ σ.1 40 a = 5) → ¬ σ.1 45 a < 0
theorem x_hb_leaf {σ : c_S} {a : Nat} (h : σ.1 40 a = 0 ∨ σ.1 40 a = 1) : x_hb σ a := fun k => by
  rcases h with h | h <;> (rw [h] at k; exact absurd k (by decide))
theorem x_hb_6 {σ : c_S} {a : Nat} (h : σ.1 40 a = 6) : x_hb σ a := fun k => by rw [h] at k; exact absurd k (by decide)
def x_T (σ : c_S) : Nat → Nat → Nat → Nat → Nat → Nat → Prop
  | _, 0, _, _, _, _ => False
  | lo, k + 1, g, h, w, n => 2 * w + lo ≤ n ∧ n < 120000 ∧
      ((σ.1 40 n = 0 ∨ σ.1 40 n = 1) ∨
       ((σ.1 40 n = 4 ∨ σ.1 40 n = 5) ∧ ∃ a b g' h' w1 w2, g = g' + 1 ∧ h = h' + 1 ∧ w1 + w2 ≤ w ∧ σ.1 41 n = nI a ∧ σ.1 42 n = nI b ∧ a < n ∧ b < n ∧ x_T σ lo k g' h' w1 a ∧ x_T σ (a + 1) k g' h' w2 b) ∨
       (σ.1 40 n = 6 ∧ ∃ a b g' w1 w2, g = g' + 1 ∧ w1 + w2 + 1 ≤ w ∧ σ.1 41 n = nI a ∧ σ.1 42 n = nI b ∧ a < n ∧ (b < n ∧ x_hb σ a) ∧ x_T σ lo k g h w1 a ∧ x_T σ (a + 1) k g' h w2 b))
theorem x_T_up {σ : c_S} : ∀ (k k' lo lo' g g' h h' w w' n : Nat), k ≤ k' → lo' ≤ lo → g ≤ g' → h ≤ h' → w = w' → x_T σ lo k g h w n → x_T σ lo' k' g' h' w' n
  | 0, _, _, _, _, _, _, _, _, _, _, _, _, _, _, _, hh => hh.elim
  | k + 1, 0, _, _, _, _, _, _, _, _, _, hk, _, _, _, _, _ => absurd hk (by omega)
  | k + 1, k' + 1, lo, lo', g, g', h, h', w, w', n, hk, hl, hg, hh, hw, hx => by
    obtain ⟨h1, h2, h3⟩ := hx
    refine ⟨by omega, h2, ?_⟩
    rcases h3 with h3 | ⟨e, a, b, gg, hh1, w1, w2, q1, q0, q2, q3, q4, q5, q6, q7, q8⟩ | ⟨e, a, b, gg, w1, w2, q1, q2, q3, q4, q5, q6, q7, q8⟩
    · exact Or.inl h3
    · exact Or.inr (Or.inl ⟨e, a, b, g' - 1, h' - 1, w1, w2, by omega, by omega, by omega, q3, q4, q5, q6, x_T_up k k' lo lo' gg (g' - 1) hh1 (h' - 1) w1 w1 a (by omega) hl (by omega) (by omega) rfl q7, x_T_up k k' (a + 1) (a + 1) gg (g' - 1) hh1 (h' - 1) w2 w2 b (by omega) (Nat.le_refl _) (by omega) (by omega) rfl q8⟩)
    · exact Or.inr (Or.inr ⟨e, a, b, g' - 1, w1, w2, by omega, by omega, q3, q4, q5, q6, x_T_up k k' lo lo' g g' h h' w1 w1 a (by omega) hl (by omega) hh rfl q7, x_T_up k k' (a + 1) (a + 1) gg (g' - 1) h h' w2 w2 b (by omega) (Nat.le_refl _) (by omega) hh rfl q8⟩)
def x_old (T : Nat) (s σ : c_S) : Prop := ∀ i, i < T → (σ.1 40 i = s.1 40 i ∧ σ.1 41 i = s.1 41 i ∧ σ.1 42 i = s.1 42 i) ∧ (¬ s.1 45 i < 0 → ¬ σ.1 45 i < 0)
theorem x_old.rf {T : Nat} {s : c_S} : x_old T s s := fun _ _ => ⟨⟨rfl, rfl, rfl⟩, id⟩
theorem x_old.tr {T : Nat} {s t u : c_S} (h : x_old T s t) (k : x_old T t u) : x_old T s u := fun i hi => ⟨⟨(k i hi).1.1.trans (h i hi).1.1, (k i hi).1.2.1.trans (h i hi).1.2.1, (k i hi).1.2.2.trans (h i hi).1.2.2⟩, fun e => (k i hi).2 ((h i hi).2 e)⟩
theorem x_old.le {T T' : Nat} {s t : c_S} (h : x_old T s t) (hT : T' ≤ T) : x_old T' s t := fun i hi => h i (by omega)
theorem x_old.of {S Y L : List Nat} {T : Nat} {s t : c_S} (f : z_F S Y L s t) (hS : (!(c_has S 40) && !(c_has S 41) && !(c_has S 42) && !(c_has S 45)) = true) : x_old T s t := by
  simp only [Bool.and_eq_true, Bool.not_eq_true'] at hS
  intro i _
  rw [f.1 40 hS.1.1.1 (by decide), f.1 41 hS.1.1.2 (by decide), f.1 42 hS.1.2 (by decide), f.1 45 hS.2 (by decide)]; exact ⟨⟨rfl, rfl, rfl⟩, id⟩
theorem x_old.br {T : Nat} {s : c_S} {n a : Nat} (ha : a < 2 ^ 31) : x_old T s (c_put s 45 n (nI a)) := fun i _ => ⟨⟨by rw [c_put_off (by decide)], by rw [c_put_off (by decide)], by rw [c_put_off (by decide)]⟩, fun h => by
  rw [c_put_get]
  split
  · exact nI_pos ha
  · exact h⟩
theorem x_hb.old {T a : Nat} {s σ : c_S} (h : x_hb s a) (ho : x_old T s σ) (ha : a < T) : x_hb σ a := fun k => (ho a ha).2 (h (by rw [(ho a ha).1.1] at k; exact k))
theorem x_T_lo {σ : c_S} {lo k g h w n : Nat} (h : x_T σ lo k g h w n) : 2 * w + lo ≤ n ∧ n < 120000 := by
  cases k with
  | zero => exact h.elim
  | succ k => exact ⟨h.1, h.2.1⟩
theorem x_T_old {s σ : c_S} {T : Nat} (ho : x_old T s σ) : ∀ {lo : Nat} (k g h w n : Nat), n < T → x_T s lo k g h w n → x_T σ lo k g h w n
  | _, 0, _, _, _, _, _, hx => hx.elim
  | lo, k + 1, g, h, w, n, hn, hx => by
    obtain ⟨h1, h2, h3⟩ := hx
    obtain ⟨⟨e0, e1, e2⟩, -⟩ := ho n hn
    refine ⟨h1, h2, ?_⟩
    rw [e0, e1, e2]
    rcases h3 with h3 | ⟨e, a, b, gg, hh1, w1, w2, q1, q0, q2, q3, q4, q5, q6, q7, q8⟩ | ⟨e, a, b, gg, w1, w2, q1, q2, q3, q4, q5, q6, q7, q8⟩
    · exact Or.inl h3
    · exact Or.inr (Or.inl ⟨e, a, b, gg, hh1, w1, w2, q1, q0, q2, q3, q4, q5, q6, x_T_old ho k gg hh1 w1 a (by omega) q7, x_T_old ho k gg hh1 w2 b (by omega) q8⟩)
    · exact Or.inr (Or.inr ⟨e, a, b, gg, w1, w2, q1, q2, q3, q4, q5, ⟨q6.1, q6.2.old ho (by omega)⟩, x_T_old ho k g h w1 a (by omega) q7, x_T_old ho k gg h w2 b (by have := q6.1; omega) q8⟩)
theorem z_nt.put3 {s : c_S} {t p : Nat} (h : z_nt s) (hp : p < 4002) : z_nt (c_put s 43 t (nI p)) := fun i => by
  obtain ⟨h1, h2, h3, h4⟩ := h i
  refine ⟨?_, by rw [c_put_off (by decide)]; exact h2, by rw [c_put_off (by decide)]; exact h3, by rw [c_put_off (by decide)]; exact h4⟩
  rw [c_put_get]; split
  · exact ⟨p, hp, rfl⟩
  · exact h1
theorem z_nt.put4 {s : c_S} {t p : Nat} (h : z_nt s) (hp : p < 4002) : z_nt (c_put s 44 t (nI p)) := fun i => by
  obtain ⟨h1, h2, h3, h4⟩ := h i
  refine ⟨by rw [c_put_off (by decide)]; exact h1, ?_, by rw [c_put_off (by decide)]; exact h3, by rw [c_put_off (by decide)]; exact h4⟩
  rw [c_put_get]; split
  · exact ⟨p, hp, rfl⟩
  · exact h2
theorem z_nt.put5 {s : c_S} {t : Nat} {x : Int32} (h : z_nt s) (hx : x = -1 ∨ ∃ p, p < 4002 ∧ x = nI p) : z_nt (c_put s 45 t x) := fun i => by
  obtain ⟨h1, h2, h3, h4⟩ := h i
  refine ⟨by rw [c_put_off (by decide)]; exact h1, by rw [c_put_off (by decide)]; exact h2, ?_, by rw [c_put_off (by decide)]; exact h4⟩
  rw [c_put_get]; split
  · exact hx
  · exact h3
theorem z_nt.put6 {s : c_S} {t : Nat} {x : Int32} (h : z_nt s) (hx : x = -1 ∨ ∃ p, p < 4002 ∧ x = nI p) : z_nt (c_put s 46 t x) := fun i => by
  obtain ⟨h1, h2, h3, h4⟩ := h i
  refine ⟨by rw [c_put_off (by decide)]; exact h1, by rw [c_put_off (by decide)]; exact h2, by rw [c_put_off (by decide)]; exact h3, ?_⟩
  rw [c_put_get]; split
  · exact hx
  · exact h4
theorem z_nt.oth {s : c_S} {k t : Nat} {x : Int32} (h : z_nt s) (hk : k ≠ 43 ∧ k ≠ 44 ∧ k ≠ 45 ∧ k ≠ 46) : z_nt (c_put s k t x) := fun i => by
  rw [c_put_ne (Ne.symm hk.1), c_put_ne (Ne.symm hk.2.1), c_put_ne (Ne.symm hk.2.2.1), c_put_ne (Ne.symm hk.2.2.2)]; exact h i
/-- a new node -/
def x_N (m : Nat) (kd l r : Int32) (s σ : c_S) : Prop := z_F [40, 41, 42, 43, 44, 45] [16] [] s σ ∧ z_G σ ∧ σ.1 34 16 = nI (m + 1) ∧ x_old m s σ ∧ σ.1 40 m = kd ∧ σ.1 41 m = l ∧ σ.1 42 m = r
theorem x_node (d : Nat) (hd : 1 ≤ d) (m : Nat) (hm : m < 136000) (kd l r : Int32) (p q : Nat) (hp : p < 4002) (hq : q < 4002) (s : c_S) (hG : z_G s) (h16 : s.1 34 16 = nI m) : k_ok (c_M d 30 [v_r 34, v_i kd, v_i l, v_i r, v_i (nI p), v_i (nI q)] s) (fun σ x => x = nI m ∧ x_N m kd l r s σ) := by
  obtain ⟨d, rfl⟩ : ∃ e, d = e + 1 := ⟨d - 1, by omega⟩
  rw [m_Rm_node, e_Rm_node_0, h16, c_rg_nI hm (by decide), c_rg_nI hm (by decide), c_rg_nI hm (by decide), c_rg_nI hm (by decide), c_rg_nI hm (by decide), c_rg_nI hm (by decide), e_Rm_node_66, nI_clamp (show m < 2 ^ 31 by omega), nI_1]
  refine k_some ⟨rfl, z_F.puf (z_F.put (z_F.put (z_F.put (z_F.put (z_F.put (z_F.put z_F.rf rfl (by decide)) rfl (by decide)) rfl (by decide)) rfl (by decide)) rfl (by decide)) rfl (by decide)) rfl, ⟨?_, hG.2.1.of rfl rfl, ?_⟩, c_put_same, ?_, ?_, ?_, ?_⟩
  · exact hG.1.of (by rw [c_put_ne (by decide), c_put_ne (by decide), c_put_ne (by decide), c_put_ne (by decide), c_put_ne (by decide), c_put_ne (by decide), c_put_ne (by decide)])
  · exact ((((((hG.2.2.oth (by decide)).oth (by decide)).oth (by decide)).put3 hp).put4 hq).put5 (Or.inl rfl)).oth (by decide)
  · intro i hi
    have hne : i ≠ m := by omega
    refine ⟨⟨?_, ?_, ?_⟩, fun h => ?_⟩
    · rw [c_put_off (by decide), c_put_off (by decide), c_put_off (by decide), c_put_off (by decide), c_put_off (by decide), c_put_off (by decide), c_put_get, if_neg hne]
    · rw [c_put_off (by decide), c_put_off (by decide), c_put_off (by decide), c_put_off (by decide), c_put_off (by decide), c_put_get, if_neg hne, c_put_off (by decide)]
    · rw [c_put_off (by decide), c_put_off (by decide), c_put_off (by decide), c_put_off (by decide), c_put_get, if_neg hne, c_put_off (by decide), c_put_off (by decide)]
    · rw [c_put_off (by decide), c_put_get, if_neg hne, c_put_off (by decide), c_put_off (by decide), c_put_off (by decide), c_put_off (by decide), c_put_off (by decide)]; exact h
  · rw [c_put_off (by decide), c_put_off (by decide), c_put_off (by decide), c_put_off (by decide), c_put_off (by decide), c_put_off (by decide), c_put_same]
  · rw [c_put_off (by decide), c_put_off (by decide), c_put_off (by decide), c_put_off (by decide), c_put_off (by decide), c_put_same]
  · rw [c_put_off (by decide), c_put_off (by decide), c_put_off (by decide), c_put_off (by decide), c_put_same]
theorem x_N.live {N M m a dd c : Nat} {kd l r : Int32} {s σ : c_S} (g : x_N m kd l r s σ) (L : x_L N M m a dd c s) (h : m + 1 + 2 * (N - a) ≤ M) : x_L N M (m + 1) a dd c σ := by
  obtain ⟨hG, h1, h2, h3, h4, h5, h6⟩ := L
  obtain ⟨f, g1, g2, -⟩ := g
  exact ⟨g1, ⟨h1.1, h1.2.1, by rw [f.1 36 rfl (by decide)]; exact h1.2.2⟩, by rw [f.2.1 9 rfl]; exact h2, g2, ⟨by rw [f.2.1 8 rfl]; exact h4.1, h4.2.1, h⟩, ⟨by rw [f.2.1 18 rfl]; exact h5.1, h5.2⟩, ⟨by rw [f.2.1 19 rfl]; exact h6.1, h6.2⟩⟩
/-- what reading an expression (e = 0) or a P (e = 1) leaves -/
def x_E (N M g X Z e m a dd c : Nat) (s σ : c_S) (r : Int32) : Prop := z_F [40, 41, 42, 43, 44, 45, 46] [8, 9, 16, 18, 19] [] s σ ∧ ((x_D M σ ∧ x_old m s σ) ∨ ∃ m' a' c' n w, x_L N M m' a' dd c' σ ∧ r = nI n ∧ m ≤ n ∧ n < m' ∧ a < a' ∧ m' + 2 * (N - a') + 1 ≤ m + 2 * (N - a) ∧ (dd ≤ Z ∧ (e = 1 → x_hb σ n) ∧ ∃ k, x_T σ m k g X w n) ∧ x_old m s σ ∧ c + w + e ≤ c')
theorem x_E.dead {N M g X Z e m a dd c : Nat} {s σ : c_S} {r : Int32} (f : z_F [40, 41, 42, 43, 44, 45, 46] [8, 9, 16, 18, 19] [] s σ) (h : x_D M σ) (o : x_old m s σ) : x_E N M g X Z e m a dd c s σ r := ⟨f, Or.inl ⟨h, o⟩⟩
/-- reading goes on from a fault: nothing more is read -/
def x_DP (M : Nat) (s σ : c_S) : Prop := z_F [] [8, 9, 16, 18, 19] [] s σ ∧ x_D M σ
theorem x_readED (d : Nat) (hd : 1 ≤ d) {M : Nat} (s : c_S) (h : x_D M s) : c_M d 36 [v_r 34] s = some (s, -1) := by
  obtain ⟨d, rfl⟩ : ∃ e, d = e + 1 := ⟨d - 1, by omega⟩
  rw [m_Rm_readE, e_Rm_readE_0, if_pos h.2.1]
theorem x_readPD (d : Nat) (hd : 2 ≤ d) {M : Nat} (s : c_S) (h : x_D M s) : k_ok (c_M d 39 [v_r 34] s) (fun σ _ => x_DP M s σ) := by
  obtain ⟨d, rfl⟩ : ∃ e, d = e + 1 := ⟨d - 1, by omega⟩
  rw [m_Rm_readP, e_Rm_readP_0]
  refine k_bd (x_withinD d (by omega) s h) (fun s_1 x_1 g_1 => ?_)
  refine k_bd (x_countsD d (by omega) s_1 g_1.2) (fun s_2 x_2 g_2 => ?_)
  rw [if_pos g_2.2.2.1]
  exact k_some ⟨z_F.tr (z_F.mono g_1.1 rfl) (z_F.mono g_2.1 rfl), g_2.2⟩
theorem x_readA10D (d : Nat) (hd : 1 ≤ d) {M : Nat} (i1 i2 : Int32) (s : c_S) (h : x_D M s) : b_Rm_readA_10 (c_M d) i1 i2 s = some (s, i2) := by
  rw [e_Rm_readA_10, x_isPD d hd s h, c_bd_some, if_pos rfl, x_signD d hd _ s h, c_bd_some, if_pos rfl]
theorem x_readAD (d : Nat) (hd : 3 ≤ d) {M : Nat} (s : c_S) (h : x_D M s) : k_ok (c_M d 38 [v_r 34] s) (fun σ _ => x_DP M s σ) := by
  obtain ⟨d, rfl⟩ : ∃ e, d = e + 1 := ⟨d - 1, by omega⟩
  rw [m_Rm_readA, e_Rm_readA_0]
  refine k_bd (x_readPD d (by omega) s h) (fun s_1 x_1 g_1 => ?_)
  rw [x_readA10D d (by omega) _ _ s_1 g_1.2]
  exact k_some g_1
/-- what is to hold of readE from deep dd on -/
def x_HE (f d : Nat) : Prop := ∀ (N M m a dd c : Nat) (s : c_S), 41 ≤ dd + f → dd ≤ 40 → x_L N M m a dd c s → k_ok (c_M d 36 [v_r 34] s) (x_E N M (2 * f) (38 - dd) 38 0 m a dd c s)
theorem x_L.deep {N M m a dd c : Nat} {s : c_S} (L : x_L N M m a (dd + 1) c s) : x_L N M m a dd c (c_put s 34 18 (s.1 34 18 - 1)) := by
  obtain ⟨hG, h1, h2, h3, h4, h5, h6⟩ := L
  have f : z_F [] [18] [] s (c_put s 34 18 (s.1 34 18 - 1)) := z_F.puf z_F.rf rfl
  exact ⟨hG.of f rfl, ⟨h1.1, h1.2.1, by rw [f.1 36 rfl (by decide)]; exact h1.2.2⟩, by rw [f.2.1 9 rfl]; exact h2, by rw [f.2.1 16 rfl]; exact h3, ⟨by rw [f.2.1 8 rfl]; exact h4.1, h4.2⟩, ⟨by rw [c_put_same, h5.1]; exact nI_pred dd, by omega⟩, ⟨by rw [f.2.1 19 rfl]; exact h6.1, h6.2⟩⟩
