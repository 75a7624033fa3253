/-! the class's calls as a whole: they return, touch nothing of the reference, and the TAPE's length is as the document says -/
def y_T (s : c_S) : Prop := ∃ T, 1 ≤ T ∧ T ≤ 12800 ∧ s.1 3 7 = nI T
def y_F (s σ : c_S) : Prop := k_F [1, 2, 3, 4, 5, 6, 7, 8, 9, 10, 11, 12, 13, 14, 15, 16, 17, 18, 19, 20, 21, 22, 23, 24, 25, 26, 27, 28, 29, 30, 31, 32, 33] [] s σ
theorem y_F.tr {s t u : c_S} (h : y_F s t) (k : y_F t u) : y_F s u := k_F.tr h k
theorem y_F.ref {s t : c_S} (h : y_F s t) : (∀ a, 34 ≤ a → t.1 a = s.1 a) ∧ t.2 = s.2 := by
  refine ⟨fun a ha => h.1 a ?_, h.2.2⟩
  cases hc : c_has [1, 2, 3, 4, 5, 6, 7, 8, 9, 10, 11, 12, 13, 14, 15, 16, 17, 18, 19, 20, 21, 22, 23, 24, 25, 26, 27, 28, 29, 30, 31, 32, 33] a
  · rfl
  · have := c_has_mem hc
    simp only [List.mem_cons, List.not_mem_nil, or_false] at this
    omega
theorem y_T.of {S : List Nat} {X : List (Nat × Nat)} {s σ : c_S} (hT : y_T s) (h : k_F S X s σ) (hS : c_has S 3 = false) : y_T σ := by
  obtain ⟨T, h1, h2, e⟩ := hT
  exact ⟨T, h1, h2, by rw [h.1 3 hS]; exact e⟩
theorem q2_release (d : Nat) (hd : 1 ≤ d) (i1 : Int32) (s : c_S) (hT : y_T s) : k_ok (c_M d 169 [v_r 3, v_i i1] s) (fun σ _ => k_F [3] [(1, 1), (27, 5), (27, 10), (27, 11)] s σ ∧ y_T σ) := by
  obtain ⟨d, rfl⟩ : ∃ e, d = e + 1 := ⟨d - 1, by omega⟩
  obtain ⟨T, h1, h2, e⟩ := id hT
  rw [m_No_release, e_No_release_0]
  refine k_if (fun _ => k_some ⟨k_F.rf, hT⟩) (fun hi => k_if (fun hl => ?_) (fun _ => k_some ⟨k_F.rf, hT⟩))
  refine k_some ⟨k_F.puf k_F.rf rfl, ?_⟩
  obtain ⟨j, hj, rfl⟩ := nI_of (k_nn2 hi)
  rw [e] at hl
  have hl2 := (nI_ltI hj (show T < 2 ^ 31 by omega)).mp hl
  have h0 : ¬ j < 1 := fun h => hi ((nI_ltI (a := j) (b := 1) hj (by decide)).mpr h)
  exact ⟨j, by omega, by omega, c_put_same⟩
theorem q2_empty (d : Nat) (hd : 1 ≤ d) (s : c_S) (hT : y_T s) : k_ok (c_M d 214 [v_r 1] s) (fun σ _ => y_F s σ ∧ y_T σ ∧ σ.1 1 1 = 0) := by
  obtain ⟨d, rfl⟩ : ∃ e, d = e + 1 := ⟨d - 1, by omega⟩
  rw [m_Ta_empty, e_Ta_empty_0]
  exact k_some ⟨k_F.puf k_F.rf rfl, hT.of (S := [1]) (X := []) (k_F.puf k_F.rf rfl) rfl, c_put_same⟩
/-- what a call of the class leaves -/
def y_P (s σ : c_S) : Prop := y_F s σ ∧ y_T σ
def y_P0 (s σ : c_S) : Prop := y_F s σ ∧ y_T σ ∧ σ.1 1 1 = 0
theorem y_P0.pre {s t σ : c_S} (h : y_F s t) (g : y_P0 t σ) : y_P0 s σ := ⟨h.tr g.1, g.2⟩
theorem cl_end (d : Nat) (hd : 1 ≤ d) (s0 s : c_S) (x : Int32) (h : y_P s0 s) : k_ok (c_bd (c_M d 214 [v_r 1] s) fun s1 _ => some (s1, x)) (fun σ _ => y_P0 s0 σ) :=
  k_bd (q2_empty d hd s h.2) (fun s_1 x_1 g_1 => k_some ⟨h.1.tr g_1.1, g_1.2⟩)
theorem cl_named (d : Nat) (hd : 6 ≤ d) (s : c_S) (hT : y_T s) : k_ok (c_M d 5 [v_r 0] s) (fun σ _ => y_P0 s σ) := by
  obtain ⟨d, rfl⟩ : ∃ e, d = e + 1 := ⟨d - 1, by omega⟩
  rw [m_Fb_named, e_Fb_named_0]
  refine k_bd (q_Ta_rewind d (by omega) _) (fun s_1 x_1 g_1 => ?_)
  have p1 : y_P s s_1 := ⟨k_F.mono g_1.1 rfl, hT.of g_1.1 rfl⟩
  refine k_bd (q_Ta_token d (by omega) _) (fun s_2 x_2 g_2 => ?_)
  obtain ⟨rfl, -⟩ := g_2
  refine k_if (fun _ => ?_) (fun _ => ?_)
  · refine k_bd (q_Ta_place d (by omega) _) (fun s_3 x_3 g_3 => ?_)
    obtain ⟨rfl, -⟩ := g_3
    refine k_bd (q_Ta_wordLength d (by omega) _) (fun s_4 x_4 g_4 => ?_)
    obtain ⟨rfl, -⟩ := g_4
    refine k_bd (q_Co_find d (by omega) _ _ _) (fun s_5 x_5 g_5 => ?_)
    obtain ⟨rfl, -⟩ := g_5
    rw [e_Fb_named_46]
    refine k_bd (q_Ta_advance d (by omega) _) (fun s_6 x_6 g_6 => ?_)
    have p6 : y_P s s_6 := ⟨p1.1.tr (k_F.mono g_6.1 rfl), p1.2.of g_6.1 rfl⟩
    refine k_bd (q_Ta_atEnd d (by omega) _) (fun s_7 x_7 g_7 => ?_)
    obtain ⟨rfl, -⟩ := g_7
    refine k_if (fun _ => ?_) (fun _ => ?_)
    · rw [e_Fb_named_69]; exact cl_end d (by omega) s _ _ p6
    · rw [e_Fb_named_69]; exact cl_end d (by omega) s _ _ p6
  · rw [e_Fb_named_69]; exact cl_end d (by omega) s _ _ p1
theorem cl_object (d : Nat) (hd : 810 ≤ d) (lo n : Nat) (s : c_S) (ht : t_r s 84 lo n) (hn : n < 12800) : k_ok (c_M d 118 [v_r 32, v_i (nI n)] s) (fun σ _ => q_C s σ) := by
  obtain ⟨d, rfl⟩ : ∃ e, d = e + 1 := ⟨d - 1, by omega⟩
  rw [m_Ck_faultOfObject, e_Ck_faultOfObject_0]
  have c0 : q_C s (c_put s 32 6 0) := q_C.of (S := [32]) (k_F.puf k_F.rf rfl) rfl
  exact k_bd ((ck_all 84).1 d (by omega) lo n _ _ (t_r_nc c0 84 lo n ht) hn) (fun s_1 x_1 g_1 => k_some (c0.tr g_1))
theorem q_C.y {s σ : c_S} (h : q_C s σ) : y_F s σ := k_F.mono h.1 rfl
theorem q_C.yT {s σ : c_S} (h : q_C s σ) (hT : y_T s) : y_T σ := hT.of h.1 rfl
theorem r_W.y {T : Nat} {s σ : c_S} {r : Int32} (h : r_W T s σ r) : y_F s σ := k_F.mono h.1 rfl
theorem cl_written (d : Nat) (hd : 820 ≤ d) (i1 : Int32) (s : c_S) (hT : y_T s) : k_ok (c_M d 12 [v_r 0, v_i i1] s) (fun σ _ => y_P0 s σ) := by
  obtain ⟨d, rfl⟩ : ∃ e, d = e + 1 := ⟨d - 1, by omega⟩
  rw [m_Fb_writtenForm, e_Fb_writtenForm_0]
  refine k_bd (q_No_mark d (by omega) _) (fun s_1 x_1 g_1 => ?_)
  obtain ⟨rfl, -⟩ := g_1
  refine k_bd (q_Fb_begin d (by omega) _) (fun s_2 x_2 g_2 => ?_)
  have p2 : y_P s_1 s_2 := ⟨k_F.mono g_2.1 rfl, hT.of g_2.1 rfl⟩
  obtain ⟨T, h1, h2, eT⟩ := id p2.2
  refine k_bd (rd_before d (by omega) _ T s_2 eT h1 h2) (fun s_3 x_3 g_3 => ?_)
  have y3 := p2.1.tr g_3.y
  obtain ⟨f3, T', n, t3, le1, le2, rfl, n1, tr3, o3⟩ := g_3
  have p3 : y_P s_1 s_3 := ⟨y3, T', by omega, le2, t3⟩
  refine k_bd (q_Re_fault d (by omega) _) (fun s_4 x_4 g_4 => ?_)
  obtain ⟨rfl, -⟩ := g_4
  have end65 : ∀ (x : Int32) (s5 : c_S), y_P s_1 s5 → k_ok (b_Fb_writtenForm_65 (c_M d) x_1 x s5) (fun σ _ => y_P0 s_1 σ) := fun x s5 p5 => by
    rw [e_Fb_writtenForm_65]
    refine k_bd (q2_release d (by omega) _ _ p5.2) (fun s_6 x_6 g_6 => ?_)
    exact cl_end d (by omega) s_1 _ _ ⟨p5.1.tr (k_F.mono g_6.1 rfl), g_6.2⟩
  have e45 : ∀ (x : Int32) (s5 : c_S), y_P s_1 s5 → k_ok (b_Fb_writtenForm_45 (c_M d) i1 x_1 (nI n) x s5) (fun σ _ => y_P0 s_1 σ) := fun x s5 p5 => by
    rw [e_Fb_writtenForm_45]
    refine k_if (fun _ => ?_) (fun _ => end65 _ _ p5)
    refine k_bd (q_Wr_write d (by omega) _ _ _) (fun s_6 x_6 g_6 => ?_)
    refine k_bd (q_Fb_troubleAtEnd d (by omega) _) (fun s_7 x_7 g_7 => ?_)
    obtain ⟨rfl, -⟩ := g_7
    exact end65 _ _ ⟨p5.1.tr (k_F.mono g_6.1 rfl), p5.2.of g_6.1 rfl⟩
  rw [e_Fb_writtenForm_30]
  refine k_if (fun _ => ?_) (fun _ => e45 _ _ p3)
  exact k_bd (cl_object d (by omega) T n _ tr3 (by omega)) (fun s_5 x_5 g_5 => e45 _ _ ⟨p3.1.tr g_5.y, g_5.yT p3.2⟩)
theorem cl_canon (d : Nat) (hd : 821 ≤ d) (s : c_S) (hT : y_T s) : k_ok (c_M d 2 [v_r 0] s) (fun σ _ => y_P0 s σ) := by
  obtain ⟨d, rfl⟩ : ∃ e, d = e + 1 := ⟨d - 1, by omega⟩
  rw [m_Fb_canon, e_Fb_canon_0]
  exact k_bd (cl_written d (by omega) _ s hT) (fun s_1 x_1 g_1 => k_some g_1)
theorem cl_type (d : Nat) (hd : 821 ≤ d) (s : c_S) (hT : y_T s) : k_ok (c_M d 3 [v_r 0] s) (fun σ _ => y_P0 s σ) := by
  obtain ⟨d, rfl⟩ : ∃ e, d = e + 1 := ⟨d - 1, by omega⟩
  rw [m_Fb_type, e_Fb_type_0]
  exact k_bd (cl_written d (by omega) _ s hT) (fun s_1 x_1 g_1 => k_some g_1)
theorem cl_equal (d : Nat) (hd : 821 ≤ d) (s : c_S) (hT : y_T s) : k_ok (c_M d 4 [v_r 0] s) (fun σ _ => y_P0 s σ) := by
  obtain ⟨d, rfl⟩ : ∃ e, d = e + 1 := ⟨d - 1, by omega⟩
  rw [m_Fb_equal, e_Fb_equal_0]
  refine k_bd (q_No_mark d (by omega) _) (fun s_1 x_1 g_1 => ?_)
  obtain ⟨rfl, -⟩ := g_1
  refine k_bd (q_Fb_begin d (by omega) _) (fun s_2 x_2 g_2 => ?_)
  have p2 : y_P s_1 s_2 := ⟨k_F.mono g_2.1 rfl, hT.of g_2.1 rfl⟩
  obtain ⟨T, h1, h2, eT⟩ := id p2.2
  refine k_bd (rd_before d (by omega) _ T s_2 eT h1 h2) (fun s_3 x_3 g_3 => ?_)
  have y3 := p2.1.tr g_3.y
  obtain ⟨f3, T1, n, t3, le1, le2, rfl, n1, tr3, o3⟩ := g_3
  refine k_bd (rd_before d (by omega) _ T1 s_3 t3 (by omega) le2) (fun s_4 x_4 g_4 => ?_)
  have y4 := y3.tr g_4.y
  obtain ⟨f4, T2, m, t4, le3, le4, rfl, m1, tr4, o4⟩ := g_4
  have p4 : y_P s_1 s_4 := ⟨y4, T2, by omega, le4, t4⟩
  have tr3' : t_r s_4 84 T n := t_r_old tr3 n1 o4
  have end88 : ∀ (x : Int32) (s5 : c_S), y_P s_1 s5 → k_ok (b_Fb_equal_88 (c_M d) x_1 x s5) (fun σ _ => y_P0 s_1 σ) := fun x s5 p5 => by
    rw [e_Fb_equal_88]
    refine k_bd (q2_release d (by omega) _ _ p5.2) (fun s_6 x_6 g_6 => ?_)
    exact cl_end d (by omega) s_1 _ _ ⟨p5.1.tr (k_F.mono g_6.1 rfl), g_6.2⟩
  have e70 : ∀ (x : Int32) (s5 : c_S), y_P s_1 s5 → k_ok (b_Fb_equal_70 (c_M d) x_1 (nI n) (nI m) x s5) (fun σ _ => y_P0 s_1 σ) := fun x s5 p5 => by
    rw [e_Fb_equal_70]
    refine k_if (fun _ => ?_) (fun _ => end88 _ _ p5)
    exact k_bd (q_Fb_comparison d (by omega) _ _ _) (fun s_6 x_6 g_6 => end88 _ _ ⟨p5.1.tr (k_F.mono g_6.1 rfl), p5.2.of g_6.1 rfl⟩)
  have e55 : ∀ (x : Int32) (s5 : c_S), q_C s_4 s5 → k_ok (b_Fb_equal_55 (c_M d) x_1 (nI n) (nI m) x s5) (fun σ _ => y_P0 s_1 σ) := fun x s5 c5 => by
    have p5 : y_P s_1 s5 := ⟨p4.1.tr c5.y, c5.yT p4.2⟩
    rw [e_Fb_equal_55]
    refine k_if (fun _ => ?_) (fun _ => e70 _ _ p5)
    exact k_bd (cl_object d (by omega) T1 m _ (t_r_nc c5 84 T1 m tr4) (by omega)) (fun s_6 x_6 g_6 => e70 _ _ ⟨p5.1.tr g_6.y, g_6.yT p5.2⟩)
  rw [e_Fb_equal_31]
  refine k_bd (q_Re_fault d (by omega) _) (fun s_5 x_5 g_5 => ?_)
  obtain ⟨rfl, -⟩ := g_5
  refine k_if (fun _ => ?_) (fun _ => e55 _ _ q_C.rf)
  exact k_bd (cl_object d (by omega) T n _ tr3' (by omega)) (fun s_6 x_6 g_6 => e55 _ _ g_6)
