/-! the reader: what it reads stands as a tree -/
def r_s (s t : c_S) : Prop := r_q s t ∧ t.1 27 5 = s.1 27 5
theorem r_s.rf {s : c_S} : r_s s s := ⟨k_F.rf, rfl⟩
theorem r_s.tr {s t u : c_S} (h : r_s s t) (k : r_s t u) : r_s s u := ⟨h.1.tr k.1, k.2.trans h.2⟩
theorem r_s.of {S : List Nat} {s t : c_S} (h : k_F S [(1, 1), (27, 5), (27, 10), (27, 11)] s t) (hS : (S.all (c_has [1, 10, 27, 28, 29]) && [(1, 1), (27, 10), (27, 11)].all (k_hp [(1, 1), (27, 5), (27, 10), (27, 11)])) = true) : r_s s t := ⟨k_F.mono h hS, h.2.1 (27, 5) (by decide)⟩
theorem r_s.top {s t : c_S} {T : Nat} (h : r_s s t) (hT : s.1 3 7 = nI T) : t.1 3 7 = nI T := by rw [h.1.top]; exact hT
theorem r_s.sc {s t : c_S} {x : Int32} (h : r_s s t) (hT : s.1 27 5 = x) : t.1 27 5 = x := h.2.trans hT
theorem q2_Re_refuse (d : Nat) (hd : 2 ≤ d) (i1 : Int32) (s : c_S) : k_ok (c_M d 199 [v_r 27, v_i i1] s) (fun σ r => r_s s σ ∧ r = 0) := by
  obtain ⟨d, rfl⟩ : ∃ e, d = e + 2 := ⟨d - 2, by omega⟩
  rw [m_Re_refuse, e_Re_refuse_0]
  refine k_if (fun _ => ?_) (fun _ => k_some ⟨r_s.rf, rfl⟩)
  refine k_bd (q_Ta_place (d + 1) (by omega) _) (fun s_1 x_1 g_1 => ?_)
  obtain ⟨rfl, -⟩ := g_1
  refine k_bd (q_Fb_faultAt (d + 1) (by omega) _ _ _) (fun s_2 x_2 g_2 => ?_)
  obtain ⟨rfl, -⟩ := g_2
  exact k_some ⟨r_s.of (k_F.puf (S := [27]) k_F.rf rfl) rfl, rfl⟩
/-- what making a node leaves -/
def r_N (T : Nat) (kd l r : Int32) (s σ : c_S) (x : Int32) : Prop := (r_s s σ ∧ x = 0) ∨ (T < 12800 ∧ x = nI T ∧ k_F [3, 4, 5, 6, 7, 8, 9, 10] [(1, 1), (27, 5), (27, 10), (27, 11)] s σ ∧ σ.1 3 7 = nI (T + 1) ∧ r_old T s σ ∧ σ.1 4 T = kd ∧ σ.1 5 T = l ∧ σ.1 6 T = r ∧ σ.1 7 T = 0)
theorem rd_node (d : Nat) (hd : 3 ≤ d) (kd l r tk fs : Int32) (s : c_S) {T : Nat} (hT : s.1 3 7 = nI T) (h1 : 1 ≤ T) (h2 : T ≤ 12800) : k_ok (c_M d 209 [v_r 27, v_i kd, v_i l, v_i r, v_i tk, v_i fs] s) (r_N T kd l r s) := by
  obtain ⟨d, rfl⟩ : ∃ e, d = e + 3 := ⟨d - 3, by omega⟩
  rw [m_Re_node, e_Re_node_0, m_No_full, e_No_full_0, hT]
  by_cases hlt : T < 12800
  · rw [if_pos (show nI T < (12800 : Int32) from nI_lt (b := 12800) hlt (by decide)), c_bd_some, if_pos rfl]
    refine k_if (fun _ => ?_) (fun _ => k_some (Or.inl ⟨r_s.rf, rfl⟩))
    rw [m_No_make, e_No_make_0, hT, if_neg (show ¬ nI T < (1 : Int32) from nI_nlt (b := 1) h1 (by omega)), if_pos (show nI T < (12800 : Int32) from nI_lt (b := 12800) hlt (by decide)), c_rg_nI hlt (by decide), c_rg_nI hlt (by decide), c_rg_nI hlt (by decide), c_rg_nI hlt (by decide), e_No_make_68, c_rg_nI hlt (by decide), c_rg_nI hlt (by decide), c_rg_nI hlt (by decide), c_bd_some, nI_clamp (show T < 2 ^ 31 by omega)]
    refine k_some (Or.inr ⟨hlt, rfl, ?_, ?_, ?_, ?_, ?_, ?_, ?_⟩)
    · exact k_F.put (k_F.put (k_F.put (k_F.put (k_F.put (k_F.put (k_F.put (k_F.puf k_F.rf rfl) rfl) rfl) rfl) rfl) rfl) rfl) rfl
    · rw [c_put_off (by decide), c_put_off (by decide), c_put_off (by decide), c_put_off (by decide), c_put_off (by decide), c_put_off (by decide), c_put_off (by decide), c_put_same]
      exact nI_1 T
    · intro m hm
      have hne : m ≠ T := by omega
      refine ⟨?_, ?_, ?_, ?_⟩
      · rw [c_put_off (by decide), c_put_off (by decide), c_put_off (by decide), c_put_off (by decide), c_put_off (by decide), c_put_off (by decide), c_put_get, if_neg hne, c_put_off (by decide)]
      · rw [c_put_off (by decide), c_put_off (by decide), c_put_off (by decide), c_put_off (by decide), c_put_off (by decide), c_put_get, if_neg hne, c_put_off (by decide), c_put_off (by decide)]
      · rw [c_put_off (by decide), c_put_off (by decide), c_put_off (by decide), c_put_off (by decide), c_put_get, if_neg hne, c_put_off (by decide), c_put_off (by decide), c_put_off (by decide)]
      · rw [c_put_off (by decide), c_put_off (by decide), c_put_off (by decide), c_put_get, if_neg hne, c_put_off (by decide), c_put_off (by decide), c_put_off (by decide), c_put_off (by decide)]
    · rw [c_put_off (by decide), c_put_off (by decide), c_put_off (by decide), c_put_off (by decide), c_put_off (by decide), c_put_off (by decide), c_put_same]
    · rw [c_put_off (by decide), c_put_off (by decide), c_put_off (by decide), c_put_off (by decide), c_put_off (by decide), c_put_same]
    · rw [c_put_off (by decide), c_put_off (by decide), c_put_off (by decide), c_put_off (by decide), c_put_same]
    · rw [c_put_off (by decide), c_put_off (by decide), c_put_off (by decide), c_put_same]
  · rw [if_neg (show ¬ nI T < (12800 : Int32) from nI_nlt (b := 12800) (by omega) (by omega)), c_bd_some, if_neg (by decide)]
    refine k_bd (q2_Re_refuse (d + 2) (by omega) _ _) (fun s_1 x_1 g_1 => k_some (Or.inl g_1))
theorem r_N.leaf {T : Nat} {kd l : Int32} {s σ : c_S} {x : Int32} (h : r_N T kd l 0 s σ x) (hk : kd ≠ 2 ∧ kd ≠ 3 ∧ kd ≠ 7) (hT : s.1 3 7 = nI T) (h1 : 1 ≤ T) (h2 : T ≤ 12800) : r_Q 1 T T s σ x := by
  rcases h with ⟨h, rfl⟩ | ⟨hlt, rfl, hf, ht, ho, e4, e5, e6, e7⟩
  · exact r_Q.zero h.1 h.2 hT h1 h2
  · refine ⟨k_F.mono hf rfl, hf.2.1 (27, 5) (by decide), T + 1, T, ht, by omega, by omega, rfl, by omega, Or.inr ⟨Nat.le_refl _, hlt, fun h => ?_, fun h => ?_, fun _ => e6⟩, fun _ => e7, ho⟩
    · rw [e4] at h; exact absurd h (fun h => h.elim hk.1 hk.2.1)
    · rw [e4] at h; exact absurd h hk.2.2
theorem i32_m1 (x : Int32) : x + (-1) = x - 1 := (Int32.sub_eq_add_neg x 1).symm
theorem rd_name_23 (d : Nat) (hd : 3 ≤ d) (i1 i2 i3 : Int32) {T : Nat} (h1 : 1 ≤ T) (h2 : T ≤ 12800) : ∀ (n : Nat) (s : c_S), s.1 3 7 = nI T → n ≤ 40 → k_ok (b_Re_nameNode_23 (c_M d) i1 i2 i3 (nI n - 1) s) (r_Q 1 T T s)
  | 0, s, hT, _ => by
    rw [e_Re_nameNode_23, if_pos (show nI 0 - 1 < 0 by decide)]
    refine k_bd (q_Co_find d (by omega) _ _ _) (fun s_1 x_1 g_1 => ?_)
    obtain ⟨rfl, -⟩ := g_1
    refine k_if (fun _ => ?_) (fun _ => ?_)
    · rw [e_Re_nameNode_105]
      refine k_bd (rd_node d hd _ _ _ _ _ _ hT h1 h2) (fun s_2 x_2 g_2 => k_some (g_2.leaf (by decide) hT h1 h2))
    · rw [e_Re_nameNode_105]
      refine k_bd (rd_node d hd _ _ _ _ _ _ hT h1 h2) (fun s_2 x_2 g_2 => k_some (g_2.leaf (by decide) hT h1 h2))
  | n + 1, s, hT, hn => by
    rw [e_Re_nameNode_23, nI_pred, if_neg (nI_pos (by omega)), c_rg_nI (by omega) (by decide), i32_m1]
    refine k_if (fun _ => ?_) (fun _ => rd_name_23 d hd i1 i2 i3 h1 h2 n s hT (by omega))
    rw [c_rg_nI (by omega) (by decide)]
    refine k_bd (q_Ta_sameSigns d (by omega) _ _ _ _) (fun s_1 x_1 g_1 => ?_)
    obtain ⟨rfl, -⟩ := g_1
    refine k_if (fun _ => rd_name_23 d hd i1 i2 i3 h1 h2 n _ hT (by omega)) (fun _ => ?_)
    refine k_bd (rd_node d hd _ _ _ _ _ _ hT h1 h2) (fun s_2 x_2 g_2 => k_some (g_2.leaf (by decide) hT h1 h2))
theorem rd_name (d : Nat) (hd : 4 ≤ d) (i1 : Int32) (s : c_S) {T sc : Nat} (hsc : s.1 27 5 = nI sc) (hs : sc ≤ 41) (hT : s.1 3 7 = nI T) (h1 : 1 ≤ T) (h2 : T ≤ 12800) : k_ok (c_M d 208 [v_r 27, v_i i1] s) (r_Q 1 T T s) := by
  obtain ⟨d, rfl⟩ : ∃ e, d = e + 1 := ⟨d - 1, by omega⟩
  rw [m_Re_nameNode, e_Re_nameNode_0]
  refine k_bd (q_Ta_wordLength d (by omega) _) (fun s_1 x_1 g_1 => ?_)
  obtain ⟨rfl, -⟩ := g_1
  have hm : ∃ q, q ≤ 40 ∧ (if (40 : Int32) < s_1.1 27 5 then (40 : Int32) else s_1.1 27 5) = nI q := by
    rw [hsc]
    by_cases h : 40 < sc
    · exact ⟨40, Nat.le_refl _, by rw [if_pos (show (40 : Int32) < nI sc from nI_lt (a := 40) h (by omega))]; rfl⟩
    · exact ⟨sc, by omega, by rw [if_neg (show ¬ (40 : Int32) < nI sc from nI_nlt (b := sc) (a := 40) (by omega) (by decide))]⟩
  obtain ⟨q, hq, e⟩ := hm
  rw [e]
  exact rd_name_23 d (by omega) _ _ _ h1 h2 q _ hT hq
/-- what is to hold of an expression that is read within w others -/
def rd_HE (f d : Nat) : Prop := ∀ (w sc T : Nat) (s : c_S), 41 ≤ w + f → w ≤ 41 → s.1 27 5 = nI sc → sc ≤ w → s.1 3 7 = nI T → 1 ≤ T → T ≤ 12800 → k_ok (c_M d 201 [v_r 27, v_i (nI w)] s) (r_Q (2 * f) T T s)
theorem rd_part (g d : Nat) (hE : rd_HE g d) (hd : 4 ≤ d) (w sc T : Nat) (s : c_S) (hw : 40 ≤ w + g) (hw2 : w ≤ 41) (hsc : s.1 27 5 = nI sc) (hs : sc ≤ w) (hT : s.1 3 7 = nI T) (h1 : 1 ≤ T) (h2 : T ≤ 12800) : k_ok (c_M (d + 1) 205 [v_r 27, v_i (nI w)] s) (r_Q (2 * g) T T s) := by
  rw [m_Re_part, e_Re_part_0]
  refine k_if (fun h40 => ?_) (fun _ => ?_)
  · have hw40 : w < 40 := (nI_ltI (a := w) (b := 40) (by omega) (by decide)).mp h40
    refine k_bd (q_Re_countPart d (by omega) _) (fun s_1 x_1 g_1 => ?_)
    have q1 : r_s s s_1 := r_s.of g_1.1 rfl
    refine k_if (fun h0 => ?_) (fun _ => ?_)
    · exact k_some (r_Q.zero q1.1 q1.2 hT h1 h2)
    · refine k_bd (q_Ta_place d (by omega) _) (fun s_2 x_2 g_2 => ?_)
      obtain ⟨rfl, -⟩ := g_2
      refine k_bd (q_Ta_token d (by omega) _) (fun s_3 x_3 g_3 => ?_)
      obtain ⟨rfl, -⟩ := g_3
      refine k_if (fun _ => ?_) (fun _ => ?_)
      · refine k_bd (q_Ta_advance d (by omega) _) (fun s_4 x_4 g_4 => ?_)
        have q4 : r_s s s_4 := q1.tr (r_s.of g_4.1 rfl)
        rw [e_Re_part_48, nI_1]
        refine k_bd (hE (w + 1) sc T s_4 (by omega) (by omega) (q4.sc hsc) (by omega) (q4.top hT) h1 h2) (fun s_5 x_5 g_5 => ?_)
        refine k_bd (q_Re_take d (by omega) _ _) (fun s_6 x_6 g_6 => ?_)
        have q6 : r_s s_5 s_6 := r_s.of g_6.1 rfl
        refine k_bd (q_No_setPlace d (by omega) _ _ _) (fun s_7 x_7 g_7 => ?_)
        have q7 : r_s s_5 s_7 := q6.tr (r_s.of g_7.1 rfl)
        exact k_some ((g_5.pre q4.1 q4.2).post q7.1 q7.2 (Nat.le_refl _))
      · refine k_bd (q_Ta_token d (by omega) _) (fun s_4 x_4 g_4 => ?_)
        obtain ⟨rfl, -⟩ := g_4
        refine k_if (fun _ => ?_) (fun _ => ?_)
        · rw [e_Re_part_84]
          refine k_bd (rd_node d (by omega) _ _ _ _ _ _ (q1.top hT) h1 h2) (fun s_5 x_5 g_5 => ?_)
          rw [e_Re_part_101]
          refine k_bd (q_Ta_advance d (by omega) _) (fun s_6 x_6 g_6 => ?_)
          have q6 : r_s s_5 s_6 := r_s.of g_6.1 rfl
          exact k_some ((((g_5.leaf (by decide) (q1.top hT) h1 h2).pre q1.1 q1.2).post q6.1 q6.2 (Nat.le_refl _)).up (by omega) (Nat.le_refl _) (Nat.le_refl _))
        · rw [e_Re_part_96]
          refine k_bd (rd_name d (by omega) _ _ (q1.sc hsc) (by omega) (q1.top hT) h1 h2) (fun s_5 x_5 g_5 => ?_)
          rw [e_Re_part_101]
          refine k_bd (q_Ta_advance d (by omega) _) (fun s_6 x_6 g_6 => ?_)
          have q6 : r_s s_5 s_6 := r_s.of g_6.1 rfl
          exact k_some (((g_5.pre q1.1 q1.2).post q6.1 q6.2 (Nat.le_refl _)).up (by omega) (Nat.le_refl _) (Nat.le_refl _))
  · refine k_bd (q2_Re_refuse d (by omega) _ _) (fun s_1 x_1 g_1 => ?_)
    obtain ⟨q1, rfl⟩ := g_1
    exact k_some (r_Q.zero q1.1 q1.2 hT h1 h2)
