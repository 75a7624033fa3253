theorem q_Ta_length (d : Nat) (hd : 1 ≤ d)  (s : c_S) : k_ok (c_M d 213 [v_r 1] s) (fun σ r => σ = s ∧ k_b 1 r) := by
  obtain ⟨d, rfl⟩ : ∃ e, d = e + 1 := ⟨d - 1, by omega⟩
  rw [m_Ta_length, e_Ta_length_0]
  exact k_some ⟨rfl, k_b1⟩
theorem q_Ce_mark (d : Nat) (hd : 1 ≤ d)  (s : c_S) : k_ok (c_M d 102 [v_r 19] s) (fun σ r => σ = s ∧ k_b 1 r) := by
  obtain ⟨d, rfl⟩ : ∃ e, d = e + 1 := ⟨d - 1, by omega⟩
  rw [m_Ce_mark, e_Ce_mark_0]
  exact k_some ⟨rfl, k_b1⟩
theorem q_Ce_release (d : Nat) (hd : 1 ≤ d) (i1 : Int32) (s : c_S) : k_ok (c_M d 103 [v_r 19, v_i i1] s) (fun σ r => k_F [19] [(1, 1), (27, 5), (27, 10), (27, 11)] s σ ∧ k_b 0 r) := by
  obtain ⟨d, rfl⟩ : ∃ e, d = e + 1 := ⟨d - 1, by omega⟩
  rw [m_Ce_release, e_Ce_release_0]
  refine k_if (fun h1 => ?_) (fun h1 => ?_)
  ·
    exact k_some ⟨k_F.rf, k_b0⟩
  ·
    refine k_if (fun h2 => ?_) (fun h2 => ?_)
    ·
      exact k_some ⟨(k_F.puf k_F.rf rfl), k_b0⟩
    ·
      exact k_some ⟨k_F.rf, k_b0⟩
theorem q_Co_sort (d : Nat) (hd : 1 ≤ d) (i1 : Int32) (s : c_S) : k_ok (c_M d 132 [v_r 11, v_i i1] s) (fun σ r => σ = s ∧ k_b 1 r) := by
  obtain ⟨d, rfl⟩ : ∃ e, d = e + 1 := ⟨d - 1, by omega⟩
  rw [m_Co_sort, e_Co_sort_0]
  refine k_if (fun h1 => ?_) (fun h1 => ?_)
  ·
    exact k_some ⟨rfl, k_b1⟩
  ·
    refine k_if (fun h2 => ?_) (fun h2 => ?_)
    ·
      refine k_rg (k_in h1 h2 (by decide)) ?_
      exact k_some ⟨rfl, k_b1⟩
    ·
      exact k_some ⟨rfl, k_b1⟩
theorem q_No_kind (d : Nat) (hd : 1 ≤ d) (i1 : Int32) (s : c_S) : k_ok (c_M d 172 [v_r 3, v_i i1] s) (fun σ r => σ = s ∧ k_b 1 r) := by
  obtain ⟨d, rfl⟩ : ∃ e, d = e + 1 := ⟨d - 1, by omega⟩
  rw [m_No_kind, e_No_kind_0]
  refine k_if (fun h1 => ?_) (fun h1 => ?_)
  ·
    refine k_if (fun h2 => ?_) (fun h2 => ?_)
    ·
      refine k_rg (k_in (k_nn1 h1) h2 (by decide)) ?_
      exact k_some ⟨rfl, k_b1⟩
    ·
      exact k_some ⟨rfl, k_b1⟩
  ·
    exact k_some ⟨rfl, k_b1⟩
theorem q_No_left (d : Nat) (hd : 1 ≤ d) (i1 : Int32) (s : c_S) : k_ok (c_M d 173 [v_r 3, v_i i1] s) (fun σ r => σ = s ∧ k_b 1 r) := by
  obtain ⟨d, rfl⟩ : ∃ e, d = e + 1 := ⟨d - 1, by omega⟩
  rw [m_No_left, e_No_left_0]
  refine k_if (fun h1 => ?_) (fun h1 => ?_)
  ·
    refine k_if (fun h2 => ?_) (fun h2 => ?_)
    ·
      refine k_rg (k_in (k_nn1 h1) h2 (by decide)) ?_
      exact k_some ⟨rfl, k_b1⟩
    ·
      exact k_some ⟨rfl, k_b1⟩
  ·
    exact k_some ⟨rfl, k_b1⟩
theorem q_Ck_isFamilyName (d : Nat) (hd : 2 ≤ d) (i1 : Int32) (s : c_S) : k_ok (c_M d 124 [v_r 32, v_i i1] s) (fun σ r => σ = s ∧ k_b 2 r) := by
  obtain ⟨d, rfl⟩ : ∃ e, d = e + 1 := ⟨d - 1, by omega⟩
  rw [m_Ck_isFamilyName, e_Ck_isFamilyName_0]
  refine k_bd (q_No_kind d (by omega) _ _) (fun s_1 x_1 g_1 => ?_)
  obtain ⟨e_1, b_1⟩ := g_1
  have e_1 := e_1.symm
  subst e_1
  refine k_if (fun h2 => ?_) (fun h2 => ?_)
  ·
    refine k_bd (q_No_left d (by omega) _ _) (fun s_3 x_3 g_3 => ?_)
    obtain ⟨e_3, b_3⟩ := g_3
    have e_3 := e_3.symm
    subst e_3
    refine k_bd (q_Co_sort d (by omega) _ _) (fun s_4 x_4 g_4 => ?_)
    obtain ⟨e_4, b_4⟩ := g_4
    have e_4 := e_4.symm
    subst e_4
    refine k_if (fun h5 => ?_) (fun h5 => ?_)
    ·
      exact k_some ⟨rfl, (k_b2 (by decide))⟩
    ·
      exact k_some ⟨rfl, (k_b2 (by decide))⟩
  ·
    exact k_some ⟨rfl, (k_b2 (by decide))⟩
theorem q_Ce_bind (d : Nat) (hd : 1 ≤ d) (i1 : Int32) (i2 : Int32) (i3 : Int32) (s : c_S) : k_ok (c_M d 110 [v_r 19, v_i i1, v_i i2, v_i i3] s) (fun σ r => k_F [22, 23] [(1, 1), (27, 5), (27, 10), (27, 11)] s σ ∧ k_b 1 r) := by
  obtain ⟨d, rfl⟩ : ∃ e, d = e + 1 := ⟨d - 1, by omega⟩
  rw [m_Ce_bind, e_Ce_bind_0]
  refine k_if (fun h1 => ?_) (fun h1 => ?_)
  ·
    exact k_some ⟨k_F.rf, k_b1⟩
  ·
    refine k_if (fun h2 => ?_) (fun h2 => ?_)
    ·
      refine k_rg (k_in (k_nn2 h1) h2 (by decide)) ?_
      refine k_rg (k_in (k_nn2 h1) h2 (by decide)) ?_
      exact k_some ⟨(k_F.put (k_F.put k_F.rf rfl) rfl), k_b1⟩
    ·
      exact k_some ⟨k_F.rf, k_b1⟩
theorem q_Ce_next (d : Nat) (hd : 1 ≤ d) (i1 : Int32) (s : c_S) : k_ok (c_M d 107 [v_r 19, v_i i1] s) (fun σ r => σ = s ∧ k_b 1 r) := by
  obtain ⟨d, rfl⟩ : ∃ e, d = e + 1 := ⟨d - 1, by omega⟩
  rw [m_Ce_next, e_Ce_next_0]
  refine k_if (fun h1 => ?_) (fun h1 => ?_)
  ·
    exact k_some ⟨rfl, k_b1⟩
  ·
    refine k_if (fun h2 => ?_) (fun h2 => ?_)
    ·
      refine k_rg (k_in (k_nn2 h1) h2 (by decide)) ?_
      exact k_some ⟨rfl, k_b1⟩
    ·
      exact k_some ⟨rfl, k_b1⟩
theorem q_Fb_faultAt (d : Nat) (hd : 1 ≤ d) (i0 : Int32) (i1 : Int32) (s : c_S) : k_ok (c_M d 15 [v_i i0, v_i i1] s) (fun σ r => σ = s ∧ k_b 1 r) := by
  obtain ⟨d, rfl⟩ : ∃ e, d = e + 1 := ⟨d - 1, by omega⟩
  rw [m_Fb_faultAt, e_Fb_faultAt_0]
  exact k_some ⟨rfl, k_b1⟩
theorem q_Ck_wrong (d : Nat) (hd : 2 ≤ d) (i1 : Int32) (i2 : Int32) (s : c_S) : k_ok (c_M d 119 [v_r 32, v_i i1, v_i i2] s) (fun σ r => k_F [32] [(1, 1), (27, 5), (27, 10), (27, 11)] s σ ∧ k_b 0 r) := by
  obtain ⟨d, rfl⟩ : ∃ e, d = e + 1 := ⟨d - 1, by omega⟩
  rw [m_Ck_wrong, e_Ck_wrong_0]
  refine k_if (fun h1 => ?_) (fun h1 => ?_)
  ·
    refine k_bd (q_Fb_faultAt d (by omega) _ _ _) (fun s_2 x_2 g_2 => ?_)
    obtain ⟨e_2, b_2⟩ := g_2
    have e_2 := e_2.symm
    subst e_2
    exact k_some ⟨(k_F.puf k_F.rf rfl), k_b0⟩
  ·
    exact k_some ⟨k_F.rf, k_b0⟩
theorem q_Me_stop (d : Nat) (hd : 1 ≤ d) (i1 : Int32) (s : c_S) : k_ok (c_M d 165 [v_r 18, v_i i1] s) (fun σ r => k_F [18] [(1, 1), (27, 5), (27, 10), (27, 11)] s σ ∧ k_b 0 r) := by
  obtain ⟨d, rfl⟩ : ∃ e, d = e + 1 := ⟨d - 1, by omega⟩
  rw [m_Me_stop, e_Me_stop_0]
  refine k_if (fun h1 => ?_) (fun h1 => ?_)
  ·
    exact k_some ⟨(k_F.puf k_F.rf rfl), k_b0⟩
  ·
    exact k_some ⟨k_F.rf, k_b0⟩
theorem q_Me_step (d : Nat) (hd : 2 ≤ d)  (s : c_S) : k_ok (c_M d 166 [v_r 18] s) (fun σ r => k_F [18] [(1, 1), (27, 5), (27, 10), (27, 11)] s σ ∧ k_b 2 r) := by
  obtain ⟨d, rfl⟩ : ∃ e, d = e + 1 := ⟨d - 1, by omega⟩
  rw [m_Me_step, e_Me_step_0]
  refine k_if (fun h1 => ?_) (fun h1 => ?_)
  ·
    refine k_if (fun h2 => ?_) (fun h2 => ?_)
    ·
      rw [e_Me_step_25]
      refine k_if (fun h3 => ?_) (fun h3 => ?_)
      ·
        exact k_some ⟨(k_F.puf (k_F.puf k_F.rf rfl) rfl), (k_b2 (by decide))⟩
      ·
        exact k_some ⟨k_F.rf, (k_b2 (by decide))⟩
    ·
      rw [e_Me_step_19]
      refine k_bd (q_Me_stop d (by omega) _ _) (fun s_4 x_4 g_4 => ?_)
      have f_4 : k_F [18] [(1, 1), (27, 5), (27, 10), (27, 11)] s s_4 := k_F.tr k_F.rf (k_F.mono g_4.1 rfl)
      rw [e_Me_step_25]
      refine k_if (fun h5 => ?_) (fun h5 => ?_)
      ·
        exact k_some ⟨(k_F.puf (k_F.puf f_4 rfl) rfl), (k_b2 (by decide))⟩
      ·
        exact k_some ⟨f_4, (k_b2 (by decide))⟩
  ·
    rw [e_Me_step_19]
    refine k_bd (q_Me_stop d (by omega) _ _) (fun s_6 x_6 g_6 => ?_)
    have f_6 : k_F [18] [(1, 1), (27, 5), (27, 10), (27, 11)] s s_6 := k_F.tr k_F.rf (k_F.mono g_6.1 rfl)
    rw [e_Me_step_25]
    refine k_if (fun h7 => ?_) (fun h7 => ?_)
    ·
      exact k_some ⟨(k_F.puf (k_F.puf f_6 rfl) rfl), (k_b2 (by decide))⟩
    ·
      exact k_some ⟨f_6, (k_b2 (by decide))⟩
theorem q_Me_trouble (d : Nat) (hd : 1 ≤ d)  (s : c_S) : k_ok (c_M d 164 [v_r 18] s) (fun σ r => σ = s ∧ k_b 1 r) := by
  obtain ⟨d, rfl⟩ : ∃ e, d = e + 1 := ⟨d - 1, by omega⟩
  rw [m_Me_trouble, e_Me_trouble_0]
  exact k_some ⟨rfl, k_b1⟩
theorem q_Ck_step (d : Nat) (hd : 3 ≤ d) (i1 : Int32) (s : c_S) : k_ok (c_M d 120 [v_r 32, v_i i1] s) (fun σ r => k_F [18, 32] [(1, 1), (27, 5), (27, 10), (27, 11)] s σ ∧ k_b 2 r) := by
  obtain ⟨d, rfl⟩ : ∃ e, d = e + 1 := ⟨d - 1, by omega⟩
  rw [m_Ck_step, e_Ck_step_0]
  refine k_if (fun h1 => ?_) (fun h1 => ?_)
  ·
    refine k_bd (q_Me_step d (by omega)  _) (fun s_2 x_2 g_2 => ?_)
    have f_2 : k_F [18, 32] [(1, 1), (27, 5), (27, 10), (27, 11)] s s_2 := k_F.tr k_F.rf (k_F.mono g_2.1 rfl)
    refine k_if (fun h3 => ?_) (fun h3 => ?_)
    ·
      refine k_bd (q_Me_trouble d (by omega)  _) (fun s_4 x_4 g_4 => ?_)
      obtain ⟨e_4, b_4⟩ := g_4
      have e_4 := e_4.symm
      subst e_4
      refine k_bd (q_Ck_wrong d (by omega) _ _ _) (fun s_5 x_5 g_5 => ?_)
      have f_5 : k_F [18, 32] [(1, 1), (27, 5), (27, 10), (27, 11)] s s_5 := k_F.tr f_2 (k_F.mono g_5.1 rfl)
      refine k_if (fun h6 => ?_) (fun h6 => ?_)
      ·
        exact k_some ⟨f_5, (k_b2 (by decide))⟩
      ·
        exact k_some ⟨f_5, (k_b2 (by decide))⟩
    ·
      refine k_if (fun h7 => ?_) (fun h7 => ?_)
      ·
        exact k_some ⟨f_2, (k_b2 (by decide))⟩
      ·
        exact k_some ⟨f_2, (k_b2 (by decide))⟩
  ·
    exact k_some ⟨k_F.rf, (k_b2 (by decide))⟩
theorem q_Ce_binder (d : Nat) (hd : 1 ≤ d) (i1 : Int32) (s : c_S) : k_ok (c_M d 108 [v_r 19, v_i i1] s) (fun σ r => σ = s ∧ k_b 1 r) := by
  obtain ⟨d, rfl⟩ : ∃ e, d = e + 1 := ⟨d - 1, by omega⟩
  rw [m_Ce_binder, e_Ce_binder_0]
  refine k_if (fun h1 => ?_) (fun h1 => ?_)
  ·
    exact k_some ⟨rfl, k_b1⟩
  ·
    refine k_if (fun h2 => ?_) (fun h2 => ?_)
    ·
      refine k_rg (k_in (k_nn2 h1) h2 (by decide)) ?_
      exact k_some ⟨rfl, k_b1⟩
    ·
      exact k_some ⟨rfl, k_b1⟩
theorem q_Ce_outward_5 (d : Nat) (hd : 2 ≤ d + 1) : ∀ (n : Nat) (i2 : Int32) (i3 : Int32) (i4 : Int32) (s : c_S), k_m i4 < n → k_ok (b_Ce_outward_5 (c_M d) i2 i3 i4 s) (fun σ r => σ = s ∧ k_b 1 r)
  | 0, i2, i3, i4, s, hn => absurd hn (Nat.not_lt_zero _)
  | n + 1, i2, i3, i4, s, hn => by
    rw [e_Ce_outward_5]
    refine k_if (fun h1 => ?_) (fun h1 => ?_)
    ·
      refine k_if (fun h2 => ?_) (fun h2 => ?_)
      ·
        exact k_some ⟨rfl, k_b1⟩
      ·
        refine k_bd (q_Ce_next d (by omega) _ _) (fun s_3 x_3 g_3 => ?_)
        obtain ⟨e_3, b_3⟩ := g_3
        have e_3 := e_3.symm
        subst e_3
        exact q_Ce_outward_5 d hd n _ _ _ _ (k_up h1 hn)
    ·
      exact k_some ⟨rfl, k_b1⟩
theorem q_Ce_outward (d : Nat) (hd : 2 ≤ d) (i1 : Int32) (i2 : Int32) (s : c_S) : k_ok (c_M d 115 [v_r 19, v_i i1, v_i i2] s) (fun σ r => σ = s ∧ k_b 1 r) := by
  obtain ⟨d, rfl⟩ : ∃ e, d = e + 1 := ⟨d - 1, by omega⟩
  rw [m_Ce_outward, e_Ce_outward_0]
  exact q_Ce_outward_5 d hd _ _ _ _ _ (Nat.lt_succ_self _)
theorem q_Co_typeRoot (d : Nat) (hd : 1 ≤ d) (i1 : Int32) (s : c_S) : k_ok (c_M d 133 [v_r 11, v_i i1] s) (fun σ r => σ = s ∧ k_b 1 r) := by
  obtain ⟨d, rfl⟩ : ∃ e, d = e + 1 := ⟨d - 1, by omega⟩
  rw [m_Co_typeRoot, e_Co_typeRoot_0]
  refine k_if (fun h1 => ?_) (fun h1 => ?_)
  ·
    exact k_some ⟨rfl, k_b1⟩
  ·
    refine k_if (fun h2 => ?_) (fun h2 => ?_)
    ·
      refine k_rg (k_in h1 h2 (by decide)) ?_
      exact k_some ⟨rfl, k_b1⟩
    ·
      exact k_some ⟨rfl, k_b1⟩
theorem q_Ce_link (d : Nat) (hd : 1 ≤ d) (i1 : Int32) (i2 : Int32) (s : c_S) : k_ok (c_M d 109 [v_r 19, v_i i1, v_i i2] s) (fun σ r => k_F [22] [(1, 1), (27, 5), (27, 10), (27, 11)] s σ ∧ k_b 0 r) := by
  obtain ⟨d, rfl⟩ : ∃ e, d = e + 1 := ⟨d - 1, by omega⟩
  rw [m_Ce_link, e_Ce_link_0]
  refine k_if (fun h1 => ?_) (fun h1 => ?_)
  ·
    exact k_some ⟨k_F.rf, k_b0⟩
  ·
    refine k_if (fun h2 => ?_) (fun h2 => ?_)
    ·
      refine k_rg (k_in (k_nn2 h1) h2 (by decide)) ?_
      exact k_some ⟨(k_F.put k_F.rf rfl), k_b0⟩
    ·
      exact k_some ⟨k_F.rf, k_b0⟩
theorem q_Ce_make (d : Nat) (hd : 2 ≤ d) (i1 : Int32) (i2 : Int32) (s : c_S) : k_ok (c_M d 104 [v_r 19, v_i i1, v_i i2] s) (fun σ r => k_F [18, 19, 20, 21, 22, 23] [(1, 1), (27, 5), (27, 10), (27, 11)] s σ ∧ k_b 1 r) := by
  obtain ⟨d, rfl⟩ : ∃ e, d = e + 1 := ⟨d - 1, by omega⟩
  rw [m_Ce_make, e_Ce_make_0]
  refine k_if (fun h1 => ?_) (fun h1 => ?_)
  ·
    rw [e_Ce_make_17]
    refine k_bd (q_Me_stop d (by omega) _ _) (fun s_2 x_2 g_2 => ?_)
    have f_2 : k_F [18, 19, 20, 21, 22, 23] [(1, 1), (27, 5), (27, 10), (27, 11)] s s_2 := k_F.tr k_F.rf (k_F.mono g_2.1 rfl)
    exact k_some ⟨f_2, k_b1⟩
  ·
    refine k_if (fun h3 => ?_) (fun h3 => ?_)
    ·
      refine k_rg (k_in (k_nn2 h1) h3 (by decide)) ?_
      refine k_rg (k_in (k_nn2 h1) h3 (by decide)) ?_
      refine k_rg (k_in (k_nn2 h1) h3 (by decide)) ?_
      refine k_rg (k_in (k_nn2 h1) h3 (by decide)) ?_
      rw [e_Ce_make_71]
      exact k_some ⟨(k_F.put (k_F.put (k_F.put (k_F.put (k_F.puf k_F.rf rfl) rfl) rfl) rfl) rfl), k_b1⟩
    ·
      rw [e_Ce_make_17]
      refine k_bd (q_Me_stop d (by omega) _ _) (fun s_4 x_4 g_4 => ?_)
      have f_4 : k_F [18, 19, 20, 21, 22, 23] [(1, 1), (27, 5), (27, 10), (27, 11)] s s_4 := k_F.tr k_F.rf (k_F.mono g_4.1 rfl)
      exact k_some ⟨f_4, k_b1⟩
theorem q_Ce_scope (d : Nat) (hd : 1 ≤ d) (i1 : Int32) (s : c_S) : k_ok (c_M d 106 [v_r 19, v_i i1] s) (fun σ r => σ = s ∧ k_b 1 r) := by
  obtain ⟨d, rfl⟩ : ∃ e, d = e + 1 := ⟨d - 1, by omega⟩
  rw [m_Ce_scope, e_Ce_scope_0]
  refine k_if (fun h1 => ?_) (fun h1 => ?_)
  ·
    exact k_some ⟨rfl, k_b1⟩
  ·
    refine k_if (fun h2 => ?_) (fun h2 => ?_)
    ·
      refine k_rg (k_in (k_nn2 h1) h2 (by decide)) ?_
      exact k_some ⟨rfl, k_b1⟩
    ·
      exact k_some ⟨rfl, k_b1⟩
theorem q_Ce_term (d : Nat) (hd : 1 ≤ d) (i1 : Int32) (s : c_S) : k_ok (c_M d 105 [v_r 19, v_i i1] s) (fun σ r => σ = s ∧ k_b 1 r) := by
  obtain ⟨d, rfl⟩ : ∃ e, d = e + 1 := ⟨d - 1, by omega⟩
  rw [m_Ce_term, e_Ce_term_0]
  refine k_if (fun h1 => ?_) (fun h1 => ?_)
  ·
    exact k_some ⟨rfl, k_b1⟩
  ·
    refine k_if (fun h2 => ?_) (fun h2 => ?_)
    ·
      refine k_rg (k_in (k_nn2 h1) h2 (by decide)) ?_
      exact k_some ⟨rfl, k_b1⟩
    ·
      exact k_some ⟨rfl, k_b1⟩
theorem q_No_right (d : Nat) (hd : 1 ≤ d) (i1 : Int32) (s : c_S) : k_ok (c_M d 174 [v_r 3, v_i i1] s) (fun σ r => σ = s ∧ k_b 1 r) := by
  obtain ⟨d, rfl⟩ : ∃ e, d = e + 1 := ⟨d - 1, by omega⟩
  rw [m_No_right, e_No_right_0]
  refine k_if (fun h1 => ?_) (fun h1 => ?_)
  ·
    refine k_if (fun h2 => ?_) (fun h2 => ?_)
    ·
      refine k_rg (k_in (k_nn1 h1) h2 (by decide)) ?_
      exact k_some ⟨rfl, k_b1⟩
    ·
      exact k_some ⟨rfl, k_b1⟩
  ·
    exact k_some ⟨rfl, k_b1⟩
theorem q_No_sibling (d : Nat) (hd : 1 ≤ d) (i1 : Int32) (s : c_S) : k_ok (c_M d 175 [v_r 3, v_i i1] s) (fun σ r => σ = s ∧ k_b 1 r) := by
  obtain ⟨d, rfl⟩ : ∃ e, d = e + 1 := ⟨d - 1, by omega⟩
  rw [m_No_sibling, e_No_sibling_0]
  refine k_if (fun h1 => ?_) (fun h1 => ?_)
  ·
    refine k_if (fun h2 => ?_) (fun h2 => ?_)
    ·
      refine k_rg (k_in (k_nn1 h1) h2 (by decide)) ?_
      exact k_some ⟨rfl, k_b1⟩
    ·
      exact k_some ⟨rfl, k_b1⟩
  ·
    exact k_some ⟨rfl, k_b1⟩
theorem q_Ma_push_19 (d : Nat) (hd : 3 ≤ d + 1) : ∀ (n : Nat) (i2 : Int32) (i3 : Int32) (i4 : Int32) (i5 : Int32) (i6 : Int32) (i7 : Int32) (s : c_S), k_m i7 < n → k_ok (b_Ma_push_19 (c_M d) i2 i3 i4 i5 i6 i7 s) (fun σ r => k_F [18, 19, 20, 21, 22, 23] [(1, 1), (27, 5), (27, 10), (27, 11)] s σ ∧ k_b 1 r)
  | 0, i2, i3, i4, i5, i6, i7, s, hn => absurd hn (Nat.not_lt_zero _)
  | n + 1, i2, i3, i4, i5, i6, i7, s, hn => by
    rw [e_Ma_push_19]
    refine k_if (fun h1 => ?_) (fun h1 => ?_)
    ·
      refine k_if (fun h2 => ?_) (fun h2 => ?_)
      ·
        rw [e_Ma_push_169]
        refine k_if (fun h3 => ?_) (fun h3 => ?_)
        ·
          exact k_some ⟨k_F.rf, k_b1⟩
        ·
          refine k_bd (q_Ce_link d (by omega) _ _ _) (fun s_4 x_4 g_4 => ?_)
          have f_4 : k_F [18, 19, 20, 21, 22, 23] [(1, 1), (27, 5), (27, 10), (27, 11)] s s_4 := k_F.tr k_F.rf (k_F.mono g_4.1 rfl)
          exact k_some ⟨f_4, k_b1⟩
      ·
        refine k_bd (q_No_kind d (by omega) _ _) (fun s_5 x_5 g_5 => ?_)
        obtain ⟨e_5, b_5⟩ := g_5
        have e_5 := e_5.symm
        subst e_5
        refine k_if (fun h6 => ?_) (fun h6 => ?_)
        ·
          rw [e_Ma_push_50]
          refine k_if (fun h7 => ?_) (fun h7 => ?_)
          ·
            rw [e_Ma_push_78]
            refine k_if (fun h8 => ?_) (fun h8 => ?_)
            ·
              refine k_bd (q_Ce_make d (by omega) _ _ _) (fun s_9 x_9 g_9 => ?_)
              have f_9 : k_F [18, 19, 20, 21, 22, 23] [(1, 1), (27, 5), (27, 10), (27, 11)] s s_9 := k_F.tr k_F.rf (k_F.mono g_9.1 rfl)
              rw [e_Ma_push_123]
              refine k_if (fun h10 => ?_) (fun h10 => ?_)
              ·
                rw [e_Ma_push_148]
                refine k_bd (q_No_sibling d (by omega) _ _) (fun s_11 x_11 g_11 => ?_)
                obtain ⟨e_11, b_11⟩ := g_11
                have e_11 := e_11.symm
                subst e_11
                exact k_mono (q_Ma_push_19 d hd n _ _ _ _ _ _ _ (k_up h1 hn)) (fun σ r g => ⟨k_F.tr f_9 g.1, g.2⟩)
              ·
                refine k_bd (q_Ce_link d (by omega) _ _ _) (fun s_12 x_12 g_12 => ?_)
                have f_12 : k_F [18, 19, 20, 21, 22, 23] [(1, 1), (27, 5), (27, 10), (27, 11)] s s_12 := k_F.tr f_9 (k_F.mono g_12.1 rfl)
                rw [e_Ma_push_148]
                refine k_bd (q_No_sibling d (by omega) _ _) (fun s_13 x_13 g_13 => ?_)
                obtain ⟨e_13, b_13⟩ := g_13
                have e_13 := e_13.symm
                subst e_13
                exact k_mono (q_Ma_push_19 d hd n _ _ _ _ _ _ _ (k_up h1 hn)) (fun σ r g => ⟨k_F.tr f_12 g.1, g.2⟩)
            ·
              refine k_bd (q_Ce_term d (by omega) _ _) (fun s_14 x_14 g_14 => ?_)
              obtain ⟨e_14, b_14⟩ := g_14
              have e_14 := e_14.symm
              subst e_14
              refine k_bd (q_Ce_scope d (by omega) _ _) (fun s_15 x_15 g_15 => ?_)
              obtain ⟨e_15, b_15⟩ := g_15
              have e_15 := e_15.symm
              subst e_15
              refine k_bd (q_Ce_make d (by omega) _ _ _) (fun s_16 x_16 g_16 => ?_)
              have f_16 : k_F [18, 19, 20, 21, 22, 23] [(1, 1), (27, 5), (27, 10), (27, 11)] s s_16 := k_F.tr k_F.rf (k_F.mono g_16.1 rfl)
              rw [e_Ma_push_123]
              refine k_if (fun h17 => ?_) (fun h17 => ?_)
              ·
                rw [e_Ma_push_148]
                refine k_bd (q_No_sibling d (by omega) _ _) (fun s_18 x_18 g_18 => ?_)
                obtain ⟨e_18, b_18⟩ := g_18
                have e_18 := e_18.symm
                subst e_18
                exact k_mono (q_Ma_push_19 d hd n _ _ _ _ _ _ _ (k_up h1 hn)) (fun σ r g => ⟨k_F.tr f_16 g.1, g.2⟩)
              ·
                refine k_bd (q_Ce_link d (by omega) _ _ _) (fun s_19 x_19 g_19 => ?_)
                have f_19 : k_F [18, 19, 20, 21, 22, 23] [(1, 1), (27, 5), (27, 10), (27, 11)] s s_19 := k_F.tr f_16 (k_F.mono g_19.1 rfl)
                rw [e_Ma_push_148]
                refine k_bd (q_No_sibling d (by omega) _ _) (fun s_20 x_20 g_20 => ?_)
                obtain ⟨e_20, b_20⟩ := g_20
                have e_20 := e_20.symm
                subst e_20
                exact k_mono (q_Ma_push_19 d hd n _ _ _ _ _ _ _ (k_up h1 hn)) (fun σ r g => ⟨k_F.tr f_19 g.1, g.2⟩)
          ·
            refine k_bd (q_No_left d (by omega) _ _) (fun s_21 x_21 g_21 => ?_)
            obtain ⟨e_21, b_21⟩ := g_21
            have e_21 := e_21.symm
            subst e_21
            refine k_bd (q_Ce_outward d (by omega) _ _ _) (fun s_22 x_22 g_22 => ?_)
            obtain ⟨e_22, b_22⟩ := g_22
            have e_22 := e_22.symm
            subst e_22
            rw [e_Ma_push_78]
            refine k_if (fun h23 => ?_) (fun h23 => ?_)
            ·
              refine k_bd (q_Ce_make d (by omega) _ _ _) (fun s_24 x_24 g_24 => ?_)
              have f_24 : k_F [18, 19, 20, 21, 22, 23] [(1, 1), (27, 5), (27, 10), (27, 11)] s s_24 := k_F.tr k_F.rf (k_F.mono g_24.1 rfl)
              rw [e_Ma_push_123]
              refine k_if (fun h25 => ?_) (fun h25 => ?_)
              ·
                rw [e_Ma_push_148]
                refine k_bd (q_No_sibling d (by omega) _ _) (fun s_26 x_26 g_26 => ?_)
                obtain ⟨e_26, b_26⟩ := g_26
                have e_26 := e_26.symm
                subst e_26
                exact k_mono (q_Ma_push_19 d hd n _ _ _ _ _ _ _ (k_up h1 hn)) (fun σ r g => ⟨k_F.tr f_24 g.1, g.2⟩)
              ·
                refine k_bd (q_Ce_link d (by omega) _ _ _) (fun s_27 x_27 g_27 => ?_)
                have f_27 : k_F [18, 19, 20, 21, 22, 23] [(1, 1), (27, 5), (27, 10), (27, 11)] s s_27 := k_F.tr f_24 (k_F.mono g_27.1 rfl)
                rw [e_Ma_push_148]
                refine k_bd (q_No_sibling d (by omega) _ _) (fun s_28 x_28 g_28 => ?_)
                obtain ⟨e_28, b_28⟩ := g_28
                have e_28 := e_28.symm
                subst e_28
                exact k_mono (q_Ma_push_19 d hd n _ _ _ _ _ _ _ (k_up h1 hn)) (fun σ r g => ⟨k_F.tr f_27 g.1, g.2⟩)
            ·
              refine k_bd (q_Ce_term d (by omega) _ _) (fun s_29 x_29 g_29 => ?_)
              obtain ⟨e_29, b_29⟩ := g_29
              have e_29 := e_29.symm
              subst e_29
              refine k_bd (q_Ce_scope d (by omega) _ _) (fun s_30 x_30 g_30 => ?_)
              obtain ⟨e_30, b_30⟩ := g_30
              have e_30 := e_30.symm
              subst e_30
              refine k_bd (q_Ce_make d (by omega) _ _ _) (fun s_31 x_31 g_31 => ?_)
              have f_31 : k_F [18, 19, 20, 21, 22, 23] [(1, 1), (27, 5), (27, 10), (27, 11)] s s_31 := k_F.tr k_F.rf (k_F.mono g_31.1 rfl)
              rw [e_Ma_push_123]
              refine k_if (fun h32 => ?_) (fun h32 => ?_)
              ·
                rw [e_Ma_push_148]
                refine k_bd (q_No_sibling d (by omega) _ _) (fun s_33 x_33 g_33 => ?_)
                obtain ⟨e_33, b_33⟩ := g_33
                have e_33 := e_33.symm
                subst e_33
                exact k_mono (q_Ma_push_19 d hd n _ _ _ _ _ _ _ (k_up h1 hn)) (fun σ r g => ⟨k_F.tr f_31 g.1, g.2⟩)
              ·
                refine k_bd (q_Ce_link d (by omega) _ _ _) (fun s_34 x_34 g_34 => ?_)
                have f_34 : k_F [18, 19, 20, 21, 22, 23] [(1, 1), (27, 5), (27, 10), (27, 11)] s s_34 := k_F.tr f_31 (k_F.mono g_34.1 rfl)
                rw [e_Ma_push_148]
                refine k_bd (q_No_sibling d (by omega) _ _) (fun s_35 x_35 g_35 => ?_)
                obtain ⟨e_35, b_35⟩ := g_35
                have e_35 := e_35.symm
                subst e_35
                exact k_mono (q_Ma_push_19 d hd n _ _ _ _ _ _ _ (k_up h1 hn)) (fun σ r g => ⟨k_F.tr f_34 g.1, g.2⟩)
        ·
          rw [e_Ma_push_50]
          refine k_if (fun h36 => ?_) (fun h36 => ?_)
          ·
            rw [e_Ma_push_78]
            refine k_if (fun h37 => ?_) (fun h37 => ?_)
            ·
              refine k_bd (q_Ce_make d (by omega) _ _ _) (fun s_38 x_38 g_38 => ?_)
              have f_38 : k_F [18, 19, 20, 21, 22, 23] [(1, 1), (27, 5), (27, 10), (27, 11)] s s_38 := k_F.tr k_F.rf (k_F.mono g_38.1 rfl)
              rw [e_Ma_push_123]
              refine k_if (fun h39 => ?_) (fun h39 => ?_)
              ·
                rw [e_Ma_push_148]
                refine k_bd (q_No_sibling d (by omega) _ _) (fun s_40 x_40 g_40 => ?_)
                obtain ⟨e_40, b_40⟩ := g_40
                have e_40 := e_40.symm
                subst e_40
                exact k_mono (q_Ma_push_19 d hd n _ _ _ _ _ _ _ (k_up h1 hn)) (fun σ r g => ⟨k_F.tr f_38 g.1, g.2⟩)
              ·
                refine k_bd (q_Ce_link d (by omega) _ _ _) (fun s_41 x_41 g_41 => ?_)
                have f_41 : k_F [18, 19, 20, 21, 22, 23] [(1, 1), (27, 5), (27, 10), (27, 11)] s s_41 := k_F.tr f_38 (k_F.mono g_41.1 rfl)
                rw [e_Ma_push_148]
                refine k_bd (q_No_sibling d (by omega) _ _) (fun s_42 x_42 g_42 => ?_)
                obtain ⟨e_42, b_42⟩ := g_42
                have e_42 := e_42.symm
                subst e_42
                exact k_mono (q_Ma_push_19 d hd n _ _ _ _ _ _ _ (k_up h1 hn)) (fun σ r g => ⟨k_F.tr f_41 g.1, g.2⟩)
            ·
              refine k_bd (q_Ce_term d (by omega) _ _) (fun s_43 x_43 g_43 => ?_)
              obtain ⟨e_43, b_43⟩ := g_43
              have e_43 := e_43.symm
              subst e_43
              refine k_bd (q_Ce_scope d (by omega) _ _) (fun s_44 x_44 g_44 => ?_)
              obtain ⟨e_44, b_44⟩ := g_44
              have e_44 := e_44.symm
              subst e_44
              refine k_bd (q_Ce_make d (by omega) _ _ _) (fun s_45 x_45 g_45 => ?_)
              have f_45 : k_F [18, 19, 20, 21, 22, 23] [(1, 1), (27, 5), (27, 10), (27, 11)] s s_45 := k_F.tr k_F.rf (k_F.mono g_45.1 rfl)
              rw [e_Ma_push_123]
              refine k_if (fun h46 => ?_) (fun h46 => ?_)
              ·
                rw [e_Ma_push_148]
                refine k_bd (q_No_sibling d (by omega) _ _) (fun s_47 x_47 g_47 => ?_)
                obtain ⟨e_47, b_47⟩ := g_47
                have e_47 := e_47.symm
                subst e_47
                exact k_mono (q_Ma_push_19 d hd n _ _ _ _ _ _ _ (k_up h1 hn)) (fun σ r g => ⟨k_F.tr f_45 g.1, g.2⟩)
              ·
                refine k_bd (q_Ce_link d (by omega) _ _ _) (fun s_48 x_48 g_48 => ?_)
                have f_48 : k_F [18, 19, 20, 21, 22, 23] [(1, 1), (27, 5), (27, 10), (27, 11)] s s_48 := k_F.tr f_45 (k_F.mono g_48.1 rfl)
                rw [e_Ma_push_148]
                refine k_bd (q_No_sibling d (by omega) _ _) (fun s_49 x_49 g_49 => ?_)
                obtain ⟨e_49, b_49⟩ := g_49
                have e_49 := e_49.symm
                subst e_49
                exact k_mono (q_Ma_push_19 d hd n _ _ _ _ _ _ _ (k_up h1 hn)) (fun σ r g => ⟨k_F.tr f_48 g.1, g.2⟩)
          ·
            refine k_bd (q_No_left d (by omega) _ _) (fun s_50 x_50 g_50 => ?_)
            obtain ⟨e_50, b_50⟩ := g_50
            have e_50 := e_50.symm
            subst e_50
            refine k_bd (q_Ce_outward d (by omega) _ _ _) (fun s_51 x_51 g_51 => ?_)
            obtain ⟨e_51, b_51⟩ := g_51
            have e_51 := e_51.symm
            subst e_51
            rw [e_Ma_push_78]
            refine k_if (fun h52 => ?_) (fun h52 => ?_)
            ·
              refine k_bd (q_Ce_make d (by omega) _ _ _) (fun s_53 x_53 g_53 => ?_)
              have f_53 : k_F [18, 19, 20, 21, 22, 23] [(1, 1), (27, 5), (27, 10), (27, 11)] s s_53 := k_F.tr k_F.rf (k_F.mono g_53.1 rfl)
              rw [e_Ma_push_123]
              refine k_if (fun h54 => ?_) (fun h54 => ?_)
              ·
                rw [e_Ma_push_148]
                refine k_bd (q_No_sibling d (by omega) _ _) (fun s_55 x_55 g_55 => ?_)
                obtain ⟨e_55, b_55⟩ := g_55
                have e_55 := e_55.symm
                subst e_55
                exact k_mono (q_Ma_push_19 d hd n _ _ _ _ _ _ _ (k_up h1 hn)) (fun σ r g => ⟨k_F.tr f_53 g.1, g.2⟩)
              ·
                refine k_bd (q_Ce_link d (by omega) _ _ _) (fun s_56 x_56 g_56 => ?_)
                have f_56 : k_F [18, 19, 20, 21, 22, 23] [(1, 1), (27, 5), (27, 10), (27, 11)] s s_56 := k_F.tr f_53 (k_F.mono g_56.1 rfl)
                rw [e_Ma_push_148]
                refine k_bd (q_No_sibling d (by omega) _ _) (fun s_57 x_57 g_57 => ?_)
                obtain ⟨e_57, b_57⟩ := g_57
                have e_57 := e_57.symm
                subst e_57
                exact k_mono (q_Ma_push_19 d hd n _ _ _ _ _ _ _ (k_up h1 hn)) (fun σ r g => ⟨k_F.tr f_56 g.1, g.2⟩)
            ·
              refine k_bd (q_Ce_term d (by omega) _ _) (fun s_58 x_58 g_58 => ?_)
              obtain ⟨e_58, b_58⟩ := g_58
              have e_58 := e_58.symm
              subst e_58
              refine k_bd (q_Ce_scope d (by omega) _ _) (fun s_59 x_59 g_59 => ?_)
              obtain ⟨e_59, b_59⟩ := g_59
              have e_59 := e_59.symm
              subst e_59
              refine k_bd (q_Ce_make d (by omega) _ _ _) (fun s_60 x_60 g_60 => ?_)
              have f_60 : k_F [18, 19, 20, 21, 22, 23] [(1, 1), (27, 5), (27, 10), (27, 11)] s s_60 := k_F.tr k_F.rf (k_F.mono g_60.1 rfl)
              rw [e_Ma_push_123]
              refine k_if (fun h61 => ?_) (fun h61 => ?_)
              ·
                rw [e_Ma_push_148]
                refine k_bd (q_No_sibling d (by omega) _ _) (fun s_62 x_62 g_62 => ?_)
                obtain ⟨e_62, b_62⟩ := g_62
                have e_62 := e_62.symm
                subst e_62
                exact k_mono (q_Ma_push_19 d hd n _ _ _ _ _ _ _ (k_up h1 hn)) (fun σ r g => ⟨k_F.tr f_60 g.1, g.2⟩)
              ·
                refine k_bd (q_Ce_link d (by omega) _ _ _) (fun s_63 x_63 g_63 => ?_)
                have f_63 : k_F [18, 19, 20, 21, 22, 23] [(1, 1), (27, 5), (27, 10), (27, 11)] s s_63 := k_F.tr f_60 (k_F.mono g_63.1 rfl)
                rw [e_Ma_push_148]
                refine k_bd (q_No_sibling d (by omega) _ _) (fun s_64 x_64 g_64 => ?_)
                obtain ⟨e_64, b_64⟩ := g_64
                have e_64 := e_64.symm
                subst e_64
                exact k_mono (q_Ma_push_19 d hd n _ _ _ _ _ _ _ (k_up h1 hn)) (fun σ r g => ⟨k_F.tr f_63 g.1, g.2⟩)
    ·
      rw [e_Ma_push_169]
      refine k_if (fun h65 => ?_) (fun h65 => ?_)
      ·
        exact k_some ⟨k_F.rf, k_b1⟩
      ·
        refine k_bd (q_Ce_link d (by omega) _ _ _) (fun s_66 x_66 g_66 => ?_)
        have f_66 : k_F [18, 19, 20, 21, 22, 23] [(1, 1), (27, 5), (27, 10), (27, 11)] s s_66 := k_F.tr k_F.rf (k_F.mono g_66.1 rfl)
        exact k_some ⟨f_66, k_b1⟩
theorem q_Ma_push (d : Nat) (hd : 3 ≤ d) (i1 : Int32) (i2 : Int32) (i3 : Int32) (s : c_S) : k_ok (c_M d 157 [v_r 30, v_i i1, v_i i2, v_i i3] s) (fun σ r => k_F [18, 19, 20, 21, 22, 23] [(1, 1), (27, 5), (27, 10), (27, 11)] s σ ∧ k_b 1 r) := by
  obtain ⟨d, rfl⟩ : ∃ e, d = e + 1 := ⟨d - 1, by omega⟩
  rw [m_Ma_push, e_Ma_push_0]
  refine k_bd (q_No_right d (by omega) _ _) (fun s_1 x_1 g_1 => ?_)
  obtain ⟨e_1, b_1⟩ := g_1
  have e_1 := e_1.symm
  subst e_1
  exact k_mono (q_Ma_push_19 d hd _ _ _ _ _ _ _ _ (Nat.lt_succ_self _)) (fun σ r g => ⟨k_F.tr k_F.rf g.1, g.2⟩)
theorem q_No_isArrow (d : Nat) (hd : 2 ≤ d) (i1 : Int32) (s : c_S) : k_ok (c_M d 180 [v_r 3, v_i i1] s) (fun σ r => σ = s ∧ k_b 2 r) := by
  obtain ⟨d, rfl⟩ : ∃ e, d = e + 1 := ⟨d - 1, by omega⟩
  rw [m_No_isArrow, e_No_isArrow_0]
  refine k_bd (q_No_kind d (by omega) _ _) (fun s_1 x_1 g_1 => ?_)
  obtain ⟨e_1, b_1⟩ := g_1
  have e_1 := e_1.symm
  subst e_1
  refine k_if (fun h2 => ?_) (fun h2 => ?_)
  ·
    exact k_some ⟨rfl, (k_b2 (by decide))⟩
  ·
    refine k_if (fun h3 => ?_) (fun h3 => ?_)
    ·
      exact k_some ⟨rfl, (k_b2 (by decide))⟩
    ·
      exact k_some ⟨rfl, (k_b2 (by decide))⟩
theorem q_Ma_expose_11 (d : Nat) (hd : 4 ≤ d + 1) : ∀ (n : Nat) (i3 : Int32) (i4 : Int32) (i5 : Int32) (i6 : Int32) (s : c_S), k_m i6 < n → k_ok (b_Ma_expose_11 (c_M d) i3 i4 i5 i6 s) (fun σ r => k_F [18, 19, 20, 21, 22, 23, 30] [(1, 1), (27, 5), (27, 10), (27, 11)] s σ ∧ k_b 0 r)
  | 0, i3, i4, i5, i6, s, hn => absurd hn (Nat.not_lt_zero _)
  | n + 1, i3, i4, i5, i6, s, hn => by
    rw [e_Ma_expose_11]
    refine k_if (fun h1 => ?_) (fun h1 => ?_)
    ·
      refine k_bd (q_No_kind d (by omega) _ _) (fun s_2 x_2 g_2 => ?_)
      obtain ⟨e_2, b_2⟩ := g_2
      have e_2 := e_2.symm
      subst e_2
      refine k_if (fun h3 => ?_) (fun h3 => ?_)
      ·
        refine k_bd (q_Ma_push d (by omega) _ _ _ _) (fun s_4 x_4 g_4 => ?_)
        have f_4 : k_F [18, 19, 20, 21, 22, 23, 30] [(1, 1), (27, 5), (27, 10), (27, 11)] s s_4 := k_F.tr k_F.rf (k_F.mono g_4.1 rfl)
        refine k_bd (q_No_left d (by omega) _ _) (fun s_5 x_5 g_5 => ?_)
        obtain ⟨e_5, b_5⟩ := g_5
        have e_5 := e_5.symm
        subst e_5
        rw [e_Ma_expose_196]
        exact k_mono (q_Ma_expose_11 d hd n _ _ _ _ _ (k_up h1 hn)) (fun σ r g => ⟨k_F.tr f_4 g.1, g.2⟩)
      ·
        refine k_if (fun h6 => ?_) (fun h6 => ?_)
        ·
          refine k_bd (q_No_left d (by omega) _ _) (fun s_7 x_7 g_7 => ?_)
          obtain ⟨e_7, b_7⟩ := g_7
          have e_7 := e_7.symm
          subst e_7
          refine k_bd (q_Ce_outward d (by omega) _ _ _) (fun s_8 x_8 g_8 => ?_)
          obtain ⟨e_8, b_8⟩ := g_8
          have e_8 := e_8.symm
          subst e_8
          rw [e_Ma_expose_83]
          refine k_bd (q_Ce_binder d (by omega) _ _) (fun s_9 x_9 g_9 => ?_)
          obtain ⟨e_9, b_9⟩ := g_9
          have e_9 := e_9.symm
          subst e_9
          refine k_bd (q_No_left d (by omega) _ _) (fun s_10 x_10 g_10 => ?_)
          obtain ⟨e_10, b_10⟩ := g_10
          have e_10 := e_10.symm
          subst e_10
          refine k_bd (q_Ce_next d (by omega) _ _) (fun s_11 x_11 g_11 => ?_)
          obtain ⟨e_11, b_11⟩ := g_11
          have e_11 := e_11.symm
          subst e_11
          rw [e_Ma_expose_196]
          exact k_mono (q_Ma_expose_11 d hd n _ _ _ _ _ (k_up h1 hn)) (fun σ r g => ⟨k_F.tr k_F.rf g.1, g.2⟩)
        ·
          refine k_if (fun h12 => ?_) (fun h12 => ?_)
          ·
            refine k_bd (q_No_left d (by omega) _ _) (fun s_13 x_13 g_13 => ?_)
            obtain ⟨e_13, b_13⟩ := g_13
            have e_13 := e_13.symm
            subst e_13
            refine k_bd (q_Co_typeRoot d (by omega) _ _) (fun s_14 x_14 g_14 => ?_)
            obtain ⟨e_14, b_14⟩ := g_14
            have e_14 := e_14.symm
            subst e_14
            rw [e_Ma_expose_136]
            rw [e_Ma_expose_196]
            exact k_mono (q_Ma_expose_11 d hd n _ _ _ _ _ (k_up h1 hn)) (fun σ r g => ⟨k_F.tr k_F.rf g.1, g.2⟩)
          ·
            refine k_if (fun h15 => ?_) (fun h15 => ?_)
            ·
              rw [e_Ma_expose_202]
              rw [e_Ma_expose_207]
              exact k_some ⟨(k_F.puf (k_F.puf k_F.rf rfl) rfl), k_b0⟩
            ·
              refine k_bd (q_No_isArrow d (by omega) _ _) (fun s_16 x_16 g_16 => ?_)
              obtain ⟨e_16, b_16⟩ := g_16
              have e_16 := e_16.symm
              subst e_16
              refine k_if (fun h17 => ?_) (fun h17 => ?_)
              ·
                rw [e_Ma_expose_202]
                rw [e_Ma_expose_207]
                exact k_some ⟨(k_F.puf (k_F.puf k_F.rf rfl) rfl), k_b0⟩
              ·
                rw [e_Ma_expose_158]
                refine k_bd (q_Ce_next d (by omega) _ _) (fun s_18 x_18 g_18 => ?_)
                obtain ⟨e_18, b_18⟩ := g_18
                have e_18 := e_18.symm
                subst e_18
                refine k_bd (q_Ce_bind d (by omega) _ _ _ _) (fun s_19 x_19 g_19 => ?_)
                have f_19 : k_F [18, 19, 20, 21, 22, 23, 30] [(1, 1), (27, 5), (27, 10), (27, 11)] s s_19 := k_F.tr k_F.rf (k_F.mono g_19.1 rfl)
                refine k_bd (q_No_right d (by omega) _ _) (fun s_20 x_20 g_20 => ?_)
                obtain ⟨e_20, b_20⟩ := g_20
                have e_20 := e_20.symm
                subst e_20
                rw [e_Ma_expose_192]
                rw [e_Ma_expose_196]
                exact k_mono (q_Ma_expose_11 d hd n _ _ _ _ _ (k_up h1 hn)) (fun σ r g => ⟨k_F.tr f_19 g.1, g.2⟩)
    ·
      rw [e_Ma_expose_202]
      rw [e_Ma_expose_207]
      exact k_some ⟨(k_F.puf (k_F.puf k_F.rf rfl) rfl), k_b0⟩
theorem q_Ma_expose (d : Nat) (hd : 4 ≤ d) (i1 : Int32) (i2 : Int32) (s : c_S) : k_ok (c_M d 158 [v_r 30, v_i i1, v_i i2] s) (fun σ r => k_F [18, 19, 20, 21, 22, 23, 30] [(1, 1), (27, 5), (27, 10), (27, 11)] s σ ∧ k_b 0 r) := by
  obtain ⟨d, rfl⟩ : ∃ e, d = e + 1 := ⟨d - 1, by omega⟩
  rw [m_Ma_expose, e_Ma_expose_0]
  exact k_mono (q_Ma_expose_11 d hd _ _ _ _ _ _ (Nat.lt_succ_self _)) (fun σ r g => ⟨k_F.tr k_F.rf g.1, g.2⟩)
theorem q_Ma_shape (d : Nat) (hd : 1 ≤ d)  (s : c_S) : k_ok (c_M d 151 [v_r 30] s) (fun σ r => σ = s ∧ k_b 1 r) := by
  obtain ⟨d, rfl⟩ : ∃ e, d = e + 1 := ⟨d - 1, by omega⟩
  rw [m_Ma_shape, e_Ma_shape_0]
  exact k_some ⟨rfl, k_b1⟩
theorem q_Ma_shapeScope (d : Nat) (hd : 1 ≤ d)  (s : c_S) : k_ok (c_M d 152 [v_r 30] s) (fun σ r => σ = s ∧ k_b 1 r) := by
  obtain ⟨d, rfl⟩ : ∃ e, d = e + 1 := ⟨d - 1, by omega⟩
  rw [m_Ma_shapeScope, e_Ma_shapeScope_0]
  exact k_some ⟨rfl, k_b1⟩
theorem q_No_place (d : Nat) (hd : 1 ≤ d) (i1 : Int32) (s : c_S) : k_ok (c_M d 178 [v_r 3, v_i i1] s) (fun σ r => σ = s ∧ k_b 1 r) := by
  obtain ⟨d, rfl⟩ : ∃ e, d = e + 1 := ⟨d - 1, by omega⟩
  rw [m_No_place, e_No_place_0]
  refine k_if (fun h1 => ?_) (fun h1 => ?_)
  ·
    refine k_if (fun h2 => ?_) (fun h2 => ?_)
    ·
      refine k_rg (k_in (k_nn1 h1) h2 (by decide)) ?_
      exact k_some ⟨rfl, k_b1⟩
    ·
      exact k_some ⟨rfl, k_b1⟩
  ·
    exact k_some ⟨rfl, k_b1⟩
theorem q_No_first (d : Nat) (hd : 1 ≤ d) (i1 : Int32) (s : c_S) : k_ok (c_M d 177 [v_r 3, v_i i1] s) (fun σ r => σ = s ∧ k_b 1 r) := by
  obtain ⟨d, rfl⟩ : ∃ e, d = e + 1 := ⟨d - 1, by omega⟩
  rw [m_No_first, e_No_first_0]
  refine k_if (fun h1 => ?_) (fun h1 => ?_)
  ·
    refine k_if (fun h2 => ?_) (fun h2 => ?_)
    ·
      refine k_rg (k_in (k_nn1 h1) h2 (by decide)) ?_
      exact k_some ⟨rfl, k_b1⟩
    ·
      exact k_some ⟨rfl, k_b1⟩
  ·
    exact k_some ⟨rfl, k_b1⟩
theorem q_No_token (d : Nat) (hd : 1 ≤ d) (i1 : Int32) (s : c_S) : k_ok (c_M d 176 [v_r 3, v_i i1] s) (fun σ r => σ = s ∧ k_b 1 r) := by
  obtain ⟨d, rfl⟩ : ∃ e, d = e + 1 := ⟨d - 1, by omega⟩
  rw [m_No_token, e_No_token_0]
  refine k_if (fun h1 => ?_) (fun h1 => ?_)
  ·
    refine k_if (fun h2 => ?_) (fun h2 => ?_)
    ·
      refine k_rg (k_in (k_nn1 h1) h2 (by decide)) ?_
      exact k_some ⟨rfl, k_b1⟩
    ·
      exact k_some ⟨rfl, k_b1⟩
  ·
    exact k_some ⟨rfl, k_b1⟩
theorem q_Ck_bareObject (d : Nat) (hd : 3 ≤ d) (i1 : Int32) (s : c_S) : k_ok (c_M d 128 [v_r 32, v_i i1] s) (fun σ r => k_F [32] [(1, 1), (27, 5), (27, 10), (27, 11)] s σ ∧ k_b 0 r) := by
  obtain ⟨d, rfl⟩ : ∃ e, d = e + 1 := ⟨d - 1, by omega⟩
  rw [m_Ck_bareObject, e_Ck_bareObject_0]
  refine k_bd (q_No_kind d (by omega) _ _) (fun s_1 x_1 g_1 => ?_)
  obtain ⟨e_1, b_1⟩ := g_1
  have e_1 := e_1.symm
  subst e_1
  refine k_if (fun h2 => ?_) (fun h2 => ?_)
  ·
    refine k_bd (q_No_token d (by omega) _ _) (fun s_3 x_3 g_3 => ?_)
    obtain ⟨e_3, b_3⟩ := g_3
    have e_3 := e_3.symm
    subst e_3
    refine k_bd (q_Ck_wrong d (by omega) _ _ _) (fun s_4 x_4 g_4 => ?_)
    have f_4 : k_F [32] [(1, 1), (27, 5), (27, 10), (27, 11)] s s_4 := k_F.tr k_F.rf (k_F.mono g_4.1 rfl)
    exact k_some ⟨f_4, k_b0⟩
  ·
    refine k_if (fun h5 => ?_) (fun h5 => ?_)
    ·
      exact k_some ⟨k_F.rf, k_b0⟩
    ·
      refine k_if (fun h6 => ?_) (fun h6 => ?_)
      ·
        refine k_bd (q_Ck_isFamilyName d (by omega) _ _) (fun s_7 x_7 g_7 => ?_)
        obtain ⟨e_7, b_7⟩ := g_7
        have e_7 := e_7.symm
        subst e_7
        refine k_if (fun h8 => ?_) (fun h8 => ?_)
        ·
          exact k_some ⟨k_F.rf, k_b0⟩
        ·
          rw [e_Ck_bareObject_49]
          refine k_bd (q_No_first d (by omega) _ _) (fun s_9 x_9 g_9 => ?_)
          obtain ⟨e_9, b_9⟩ := g_9
          have e_9 := e_9.symm
          subst e_9
          refine k_bd (q_Ck_wrong d (by omega) _ _ _) (fun s_10 x_10 g_10 => ?_)
          have f_10 : k_F [32] [(1, 1), (27, 5), (27, 10), (27, 11)] s s_10 := k_F.tr k_F.rf (k_F.mono g_10.1 rfl)
          exact k_some ⟨f_10, k_b0⟩
      ·
        rw [e_Ck_bareObject_49]
        refine k_bd (q_No_first d (by omega) _ _) (fun s_11 x_11 g_11 => ?_)
        obtain ⟨e_11, b_11⟩ := g_11
        have e_11 := e_11.symm
        subst e_11
        refine k_bd (q_Ck_wrong d (by omega) _ _ _) (fun s_12 x_12 g_12 => ?_)
        have f_12 : k_F [32] [(1, 1), (27, 5), (27, 10), (27, 11)] s s_12 := k_F.tr k_F.rf (k_F.mono g_12.1 rfl)
        exact k_some ⟨f_12, k_b0⟩
theorem q_Ce_enter (d : Nat) (hd : 3 ≤ d) (i1 : Int32) (i2 : Int32) (i3 : Int32) (s : c_S) : k_ok (c_M d 113 [v_r 19, v_i i1, v_i i2, v_i i3] s) (fun σ r => k_F [18, 19, 20, 21, 22, 23] [(1, 1), (27, 5), (27, 10), (27, 11)] s σ ∧ k_b 1 r) := by
  obtain ⟨d, rfl⟩ : ∃ e, d = e + 1 := ⟨d - 1, by omega⟩
  rw [m_Ce_enter, e_Ce_enter_0]
  refine k_bd (q_Ce_make d (by omega) _ _ _) (fun s_1 x_1 g_1 => ?_)
  have f_1 : k_F [18, 19, 20, 21, 22, 23] [(1, 1), (27, 5), (27, 10), (27, 11)] s s_1 := k_F.tr k_F.rf (k_F.mono g_1.1 rfl)
  refine k_bd (q_Ce_bind d (by omega) _ _ _ _) (fun s_2 x_2 g_2 => ?_)
  have f_2 : k_F [18, 19, 20, 21, 22, 23] [(1, 1), (27, 5), (27, 10), (27, 11)] s s_2 := k_F.tr f_1 (k_F.mono g_2.1 rfl)
  exact k_some ⟨f_2, k_b1⟩
theorem q_Ce_newVariable (d : Nat) (hd : 3 ≤ d) (i1 : Int32) (i2 : Int32) (i3 : Int32) (s : c_S) : k_ok (c_M d 111 [v_r 19, v_i i1, v_i i2, v_i i3] s) (fun σ r => k_F [18, 19, 20, 21, 22, 23] [(1, 1), (27, 5), (27, 10), (27, 11)] s σ ∧ k_b 1 r) := by
  obtain ⟨d, rfl⟩ : ∃ e, d = e + 1 := ⟨d - 1, by omega⟩
  rw [m_Ce_newVariable, e_Ce_newVariable_0]
  refine k_bd (q_Ce_make d (by omega) _ _ _) (fun s_1 x_1 g_1 => ?_)
  have f_1 : k_F [18, 19, 20, 21, 22, 23] [(1, 1), (27, 5), (27, 10), (27, 11)] s s_1 := k_F.tr k_F.rf (k_F.mono g_1.1 rfl)
  refine k_bd (q_Ce_link d (by omega) _ _ _) (fun s_2 x_2 g_2 => ?_)
  have f_2 : k_F [18, 19, 20, 21, 22, 23] [(1, 1), (27, 5), (27, 10), (27, 11)] s s_2 := k_F.tr f_1 (k_F.mono g_2.1 rfl)
  exact k_some ⟨f_2, k_b1⟩
theorem q_Ck_under (d : Nat) (hd : 4 ≤ d) (i1 : Int32) (i2 : Int32) (s : c_S) : k_ok (c_M d 122 [v_r 32, v_i i1, v_i i2] s) (fun σ r => k_F [18, 19, 20, 21, 22, 23] [(1, 1), (27, 5), (27, 10), (27, 11)] s σ ∧ k_b 1 r) := by
  obtain ⟨d, rfl⟩ : ∃ e, d = e + 1 := ⟨d - 1, by omega⟩
  rw [m_Ck_under, e_Ck_under_0]
  refine k_bd (q_No_left d (by omega) _ _) (fun s_1 x_1 g_1 => ?_)
  obtain ⟨e_1, b_1⟩ := g_1
  have e_1 := e_1.symm
  subst e_1
  refine k_bd (q_Ce_newVariable d (by omega) _ _ _ _) (fun s_2 x_2 g_2 => ?_)
  have f_2 : k_F [18, 19, 20, 21, 22, 23] [(1, 1), (27, 5), (27, 10), (27, 11)] s s_2 := k_F.tr k_F.rf (k_F.mono g_2.1 rfl)
  refine k_bd (q_Ce_enter d (by omega) _ _ _ _) (fun s_3 x_3 g_3 => ?_)
  have f_3 : k_F [18, 19, 20, 21, 22, 23] [(1, 1), (27, 5), (27, 10), (27, 11)] s s_3 := k_F.tr f_2 (k_F.mono g_3.1 rfl)
  exact k_some ⟨f_3, k_b1⟩
theorem q_Ce_append_20 (d : Nat) (hd : 3 ≤ d + 1) : ∀ (n : Nat) (i1 : Int32) (i3 : Int32) (i4 : Int32) (i5 : Int32) (s : c_S), k_m i5 < n → k_ok (b_Ce_append_20 (c_M d) i1 i3 i4 i5 s) (fun σ r => k_F [18, 19, 20, 21, 22, 23] [(1, 1), (27, 5), (27, 10), (27, 11)] s σ ∧ k_b 1 r)
  | 0, i1, i3, i4, i5, s, hn => absurd hn (Nat.not_lt_zero _)
  | n + 1, i1, i3, i4, i5, s, hn => by
    rw [e_Ce_append_20]
    refine k_if (fun h1 => ?_) (fun h1 => ?_)
    ·
      refine k_bd (q_Ce_next d (by omega) _ _) (fun s_2 x_2 g_2 => ?_)
      obtain ⟨e_2, b_2⟩ := g_2
      have e_2 := e_2.symm
      subst e_2
      refine k_if (fun h3 => ?_) (fun h3 => ?_)
      ·
        rw [e_Ce_append_50]
        refine k_bd (q_Ce_link d (by omega) _ _ _) (fun s_4 x_4 g_4 => ?_)
        have f_4 : k_F [18, 19, 20, 21, 22, 23] [(1, 1), (27, 5), (27, 10), (27, 11)] s s_4 := k_F.tr k_F.rf (k_F.mono g_4.1 rfl)
        exact k_some ⟨f_4, k_b1⟩
      ·
        refine k_bd (q_Ce_next d (by omega) _ _) (fun s_5 x_5 g_5 => ?_)
        obtain ⟨e_5, b_5⟩ := g_5
        have e_5 := e_5.symm
        subst e_5
        exact k_mono (q_Ce_append_20 d hd n _ _ _ _ _ (k_up h1 hn)) (fun σ r g => ⟨k_F.tr k_F.rf g.1, g.2⟩)
    ·
      rw [e_Ce_append_50]
      refine k_bd (q_Ce_link d (by omega) _ _ _) (fun s_6 x_6 g_6 => ?_)
      have f_6 : k_F [18, 19, 20, 21, 22, 23] [(1, 1), (27, 5), (27, 10), (27, 11)] s s_6 := k_F.tr k_F.rf (k_F.mono g_6.1 rfl)
      exact k_some ⟨f_6, k_b1⟩
theorem q_Ce_append (d : Nat) (hd : 3 ≤ d) (i1 : Int32) (i2 : Int32) (s : c_S) : k_ok (c_M d 114 [v_r 19, v_i i1, v_i i2] s) (fun σ r => k_F [18, 19, 20, 21, 22, 23] [(1, 1), (27, 5), (27, 10), (27, 11)] s σ ∧ k_b 1 r) := by
  obtain ⟨d, rfl⟩ : ∃ e, d = e + 1 := ⟨d - 1, by omega⟩
  rw [m_Ce_append, e_Ce_append_0]
  refine k_bd (q_Ce_make d (by omega) _ _ _) (fun s_1 x_1 g_1 => ?_)
  have f_1 : k_F [18, 19, 20, 21, 22, 23] [(1, 1), (27, 5), (27, 10), (27, 11)] s s_1 := k_F.tr k_F.rf (k_F.mono g_1.1 rfl)
  refine k_if (fun h2 => ?_) (fun h2 => ?_)
  ·
    exact k_some ⟨f_1, k_b1⟩
  ·
    exact k_mono (q_Ce_append_20 d hd _ _ _ _ _ _ (Nat.lt_succ_self _)) (fun σ r g => ⟨k_F.tr f_1 g.1, g.2⟩)
theorem q_Ju_sameLength_8 (d : Nat) (hd : 2 ≤ d + 1) : ∀ (n : Nat) (i3 : Int32) (i4 : Int32) (i5 : Int32) (s : c_S), k_m i5 < n → k_ok (b_Ju_sameLength_8 (c_M d) i3 i4 i5 s) (fun σ r => σ = s ∧ k_b 2 r)
  | 0, i3, i4, i5, s, hn => absurd hn (Nat.not_lt_zero _)
  | n + 1, i3, i4, i5, s, hn => by
    rw [e_Ju_sameLength_8]
    refine k_if (fun h1 => ?_) (fun h1 => ?_)
    ·
      refine k_if (fun h2 => ?_) (fun h2 => ?_)
      ·
        refine k_if (fun h3 => ?_) (fun h3 => ?_)
        ·
          refine k_if (fun h4 => ?_) (fun h4 => ?_)
          ·
            exact k_some ⟨rfl, (k_b2 (by decide))⟩
          ·
            exact k_some ⟨rfl, (k_b2 (by decide))⟩
        ·
          exact k_some ⟨rfl, (k_b2 (by decide))⟩
      ·
        refine k_if (fun h5 => ?_) (fun h5 => ?_)
        ·
          refine k_if (fun h6 => ?_) (fun h6 => ?_)
          ·
            refine k_if (fun h7 => ?_) (fun h7 => ?_)
            ·
              exact k_some ⟨rfl, (k_b2 (by decide))⟩
            ·
              exact k_some ⟨rfl, (k_b2 (by decide))⟩
          ·
            exact k_some ⟨rfl, (k_b2 (by decide))⟩
        ·
          refine k_bd (q_Ce_next d (by omega) _ _) (fun s_8 x_8 g_8 => ?_)
          obtain ⟨e_8, b_8⟩ := g_8
          have e_8 := e_8.symm
          subst e_8
          refine k_bd (q_Ce_next d (by omega) _ _) (fun s_9 x_9 g_9 => ?_)
          obtain ⟨e_9, b_9⟩ := g_9
          have e_9 := e_9.symm
          subst e_9
          rw [e_Ju_sameLength_44]
          exact q_Ju_sameLength_8 d hd n _ _ _ _ (k_up h1 hn)
    ·
      refine k_if (fun h10 => ?_) (fun h10 => ?_)
      ·
        refine k_if (fun h11 => ?_) (fun h11 => ?_)
        ·
          exact k_some ⟨rfl, (k_b2 (by decide))⟩
        ·
          exact k_some ⟨rfl, (k_b2 (by decide))⟩
      ·
        exact k_some ⟨rfl, (k_b2 (by decide))⟩
theorem q_Ju_sameLength (d : Nat) (hd : 2 ≤ d) (i1 : Int32) (i2 : Int32) (s : c_S) : k_ok (c_M d 150 [v_r 31, v_i i1, v_i i2] s) (fun σ r => σ = s ∧ k_b 2 r) := by
  obtain ⟨d, rfl⟩ : ∃ e, d = e + 1 := ⟨d - 1, by omega⟩
  rw [m_Ju_sameLength, e_Ju_sameLength_0]
  exact q_Ju_sameLength_8 d hd _ _ _ _ _ (Nat.lt_succ_self _)
theorem q_Ma_head (d : Nat) (hd : 1 ≤ d)  (s : c_S) : k_ok (c_M d 153 [v_r 30] s) (fun σ r => σ = s ∧ k_b 1 r) := by
  obtain ⟨d, rfl⟩ : ∃ e, d = e + 1 := ⟨d - 1, by omega⟩
  rw [m_Ma_head, e_Ma_head_0]
  exact k_some ⟨rfl, k_b1⟩
theorem q_Co_bodyRoot (d : Nat) (hd : 1 ≤ d) (i1 : Int32) (s : c_S) : k_ok (c_M d 134 [v_r 11, v_i i1] s) (fun σ r => σ = s ∧ k_b 1 r) := by
  obtain ⟨d, rfl⟩ : ∃ e, d = e + 1 := ⟨d - 1, by omega⟩
  rw [m_Co_bodyRoot, e_Co_bodyRoot_0]
  refine k_if (fun h1 => ?_) (fun h1 => ?_)
  ·
    exact k_some ⟨rfl, k_b1⟩
  ·
    refine k_if (fun h2 => ?_) (fun h2 => ?_)
    ·
      refine k_rg (k_in h1 h2 (by decide)) ?_
      exact k_some ⟨rfl, k_b1⟩
    ·
      exact k_some ⟨rfl, k_b1⟩
theorem q_Ma_isDefinition (d : Nat) (hd : 2 ≤ d) (i1 : Int32) (s : c_S) : k_ok (c_M d 160 [v_r 30, v_i i1] s) (fun σ r => σ = s ∧ k_b 2 r) := by
  obtain ⟨d, rfl⟩ : ∃ e, d = e + 1 := ⟨d - 1, by omega⟩
  rw [m_Ma_isDefinition, e_Ma_isDefinition_0]
  refine k_bd (q_No_left d (by omega) _ _) (fun s_1 x_1 g_1 => ?_)
  obtain ⟨e_1, b_1⟩ := g_1
  have e_1 := e_1.symm
  subst e_1
  refine k_bd (q_Co_sort d (by omega) _ _) (fun s_2 x_2 g_2 => ?_)
  obtain ⟨e_2, b_2⟩ := g_2
  have e_2 := e_2.symm
  subst e_2
  refine k_if (fun h3 => ?_) (fun h3 => ?_)
  ·
    exact k_some ⟨rfl, (k_b2 (by decide))⟩
  ·
    exact k_some ⟨rfl, (k_b2 (by decide))⟩
theorem q_Ma_headForm_21 (d : Nat) (hd : 4 ≤ d + 1) : ∀ (n : Nat) (i4 : Int32) (i5 : Int32) (i6 : Int32) (s : c_S), k_m i6 < n → k_ok (b_Ma_headForm_21 (c_M d) i4 i5 i6 s) (fun σ r => k_F [18, 19, 20, 21, 22, 23, 30] [(1, 1), (27, 5), (27, 10), (27, 11)] s σ ∧ k_b 2 r)
  | 0, i4, i5, i6, s, hn => absurd hn (Nat.not_lt_zero _)
  | n + 1, i4, i5, i6, s, hn => by
    rw [e_Ma_headForm_21]
    refine k_if (fun h1 => ?_) (fun h1 => ?_)
    ·
      refine k_if (fun h2 => ?_) (fun h2 => ?_)
      ·
        refine k_bd (q_No_kind d (by omega) _ _) (fun s_3 x_3 g_3 => ?_)
        obtain ⟨e_3, b_3⟩ := g_3
        have e_3 := e_3.symm
        subst e_3
        refine k_if (fun h4 => ?_) (fun h4 => ?_)
        ·
          refine k_bd (q_Ma_push d (by omega) _ _ _ _) (fun s_5 x_5 g_5 => ?_)
          have f_5 : k_F [18, 19, 20, 21, 22, 23, 30] [(1, 1), (27, 5), (27, 10), (27, 11)] s s_5 := k_F.tr k_F.rf (k_F.mono g_5.1 rfl)
          refine k_bd (q_No_left d (by omega) _ _) (fun s_6 x_6 g_6 => ?_)
          obtain ⟨e_6, b_6⟩ := g_6
          have e_6 := e_6.symm
          subst e_6
          rw [e_Ma_headForm_299]
          exact k_mono (q_Ma_headForm_21 d hd n _ _ _ _ (k_up h1 hn)) (fun σ r g => ⟨k_F.tr (k_F.puf f_5 rfl) g.1, g.2⟩)
        ·
          refine k_if (fun h7 => ?_) (fun h7 => ?_)
          ·
            refine k_bd (q_No_left d (by omega) _ _) (fun s_8 x_8 g_8 => ?_)
            obtain ⟨e_8, b_8⟩ := g_8
            have e_8 := e_8.symm
            subst e_8
            refine k_bd (q_Ce_outward d (by omega) _ _ _) (fun s_9 x_9 g_9 => ?_)
            obtain ⟨e_9, b_9⟩ := g_9
            have e_9 := e_9.symm
            subst e_9
            rw [e_Ma_headForm_107]
            refine k_bd (q_Ce_term d (by omega) _ _) (fun s_10 x_10 g_10 => ?_)
            obtain ⟨e_10, b_10⟩ := g_10
            have e_10 := e_10.symm
            subst e_10
            refine k_bd (q_Ce_scope d (by omega) _ _) (fun s_11 x_11 g_11 => ?_)
            obtain ⟨e_11, b_11⟩ := g_11
            have e_11 := e_11.symm
            subst e_11
            rw [e_Ma_headForm_299]
            exact k_mono (q_Ma_headForm_21 d hd n _ _ _ _ (k_up h1 hn)) (fun σ r g => ⟨k_F.tr k_F.rf g.1, g.2⟩)
          ·
            refine k_if (fun h12 => ?_) (fun h12 => ?_)
            ·
              refine k_if (fun h13 => ?_) (fun h13 => ?_)
              ·
                rw [e_Ma_headForm_207]
                refine k_if (fun h14 => ?_) (fun h14 => ?_)
                ·
                  refine k_bd (q_Ma_isDefinition d (by omega) _ _) (fun s_15 x_15 g_15 => ?_)
                  obtain ⟨e_15, b_15⟩ := g_15
                  have e_15 := e_15.symm
                  subst e_15
                  refine k_if (fun h16 => ?_) (fun h16 => ?_)
                  ·
                    rw [e_Ma_headForm_258]
                    refine k_if (fun h17 => ?_) (fun h17 => ?_)
                    ·
                      refine k_bd (q_No_left d (by omega) _ _) (fun s_18 x_18 g_18 => ?_)
                      obtain ⟨e_18, b_18⟩ := g_18
                      have e_18 := e_18.symm
                      subst e_18
                      rw [e_Ma_headForm_280]
                      refine k_bd (q_Me_trouble d (by omega)  _) (fun s_19 x_19 g_19 => ?_)
                      obtain ⟨e_19, b_19⟩ := g_19
                      have e_19 := e_19.symm
                      subst e_19
                      refine k_if (fun h20 => ?_) (fun h20 => ?_)
                      ·
                        exact k_some ⟨(k_F.puf k_F.rf rfl), (k_b2 (by decide))⟩
                      ·
                        exact k_some ⟨(k_F.puf k_F.rf rfl), (k_b2 (by decide))⟩
                    ·
                      rw [e_Ma_headForm_280]
                      refine k_bd (q_Me_trouble d (by omega)  _) (fun s_21 x_21 g_21 => ?_)
                      obtain ⟨e_21, b_21⟩ := g_21
                      have e_21 := e_21.symm
                      subst e_21
                      refine k_if (fun h22 => ?_) (fun h22 => ?_)
                      ·
                        exact k_some ⟨(k_F.puf k_F.rf rfl), (k_b2 (by decide))⟩
                      ·
                        exact k_some ⟨(k_F.puf k_F.rf rfl), (k_b2 (by decide))⟩
                  ·
                    refine k_bd (q_Me_step d (by omega)  _) (fun s_23 x_23 g_23 => ?_)
                    have f_23 : k_F [18, 19, 20, 21, 22, 23, 30] [(1, 1), (27, 5), (27, 10), (27, 11)] s s_23 := k_F.tr k_F.rf (k_F.mono g_23.1 rfl)
                    refine k_if (fun h24 => ?_) (fun h24 => ?_)
                    ·
                      exact k_some ⟨f_23, (k_b2 (by decide))⟩
                    ·
                      refine k_bd (q_No_left d (by omega) _ _) (fun s_25 x_25 g_25 => ?_)
                      obtain ⟨e_25, b_25⟩ := g_25
                      have e_25 := e_25.symm
                      subst e_25
                      refine k_bd (q_Co_bodyRoot d (by omega) _ _) (fun s_26 x_26 g_26 => ?_)
                      obtain ⟨e_26, b_26⟩ := g_26
                      have e_26 := e_26.symm
                      subst e_26
                      rw [e_Ma_headForm_252]
                      rw [e_Ma_headForm_299]
                      exact k_mono (q_Ma_headForm_21 d hd n _ _ _ _ (k_up h1 hn)) (fun σ r g => ⟨k_F.tr f_23 g.1, g.2⟩)
                ·
                  rw [e_Ma_headForm_258]
                  refine k_if (fun h27 => ?_) (fun h27 => ?_)
                  ·
                    refine k_bd (q_No_left d (by omega) _ _) (fun s_28 x_28 g_28 => ?_)
                    obtain ⟨e_28, b_28⟩ := g_28
                    have e_28 := e_28.symm
                    subst e_28
                    rw [e_Ma_headForm_280]
                    refine k_bd (q_Me_trouble d (by omega)  _) (fun s_29 x_29 g_29 => ?_)
                    obtain ⟨e_29, b_29⟩ := g_29
                    have e_29 := e_29.symm
                    subst e_29
                    refine k_if (fun h30 => ?_) (fun h30 => ?_)
                    ·
                      exact k_some ⟨(k_F.puf k_F.rf rfl), (k_b2 (by decide))⟩
                    ·
                      exact k_some ⟨(k_F.puf k_F.rf rfl), (k_b2 (by decide))⟩
                  ·
                    rw [e_Ma_headForm_280]
                    refine k_bd (q_Me_trouble d (by omega)  _) (fun s_31 x_31 g_31 => ?_)
                    obtain ⟨e_31, b_31⟩ := g_31
                    have e_31 := e_31.symm
                    subst e_31
                    refine k_if (fun h32 => ?_) (fun h32 => ?_)
                    ·
                      exact k_some ⟨(k_F.puf k_F.rf rfl), (k_b2 (by decide))⟩
                    ·
                      exact k_some ⟨(k_F.puf k_F.rf rfl), (k_b2 (by decide))⟩
              ·
                rw [e_Ma_headForm_145]
                refine k_bd (q_Me_step d (by omega)  _) (fun s_33 x_33 g_33 => ?_)
                have f_33 : k_F [18, 19, 20, 21, 22, 23, 30] [(1, 1), (27, 5), (27, 10), (27, 11)] s s_33 := k_F.tr k_F.rf (k_F.mono g_33.1 rfl)
                refine k_if (fun h34 => ?_) (fun h34 => ?_)
                ·
                  exact k_some ⟨f_33, (k_b2 (by decide))⟩
                ·
                  refine k_bd (q_Ce_next d (by omega) _ _) (fun s_35 x_35 g_35 => ?_)
                  obtain ⟨e_35, b_35⟩ := g_35
                  have e_35 := e_35.symm
                  subst e_35
                  refine k_bd (q_Ce_bind d (by omega) _ _ _ _) (fun s_36 x_36 g_36 => ?_)
                  have f_36 : k_F [18, 19, 20, 21, 22, 23, 30] [(1, 1), (27, 5), (27, 10), (27, 11)] s s_36 := k_F.tr f_33 (k_F.mono g_36.1 rfl)
                  refine k_bd (q_No_right d (by omega) _ _) (fun s_37 x_37 g_37 => ?_)
                  obtain ⟨e_37, b_37⟩ := g_37
                  have e_37 := e_37.symm
                  subst e_37
                  rw [e_Ma_headForm_198]
                  rw [e_Ma_headForm_299]
                  exact k_mono (q_Ma_headForm_21 d hd n _ _ _ _ (k_up h1 hn)) (fun σ r g => ⟨k_F.tr (k_F.puf f_36 rfl) g.1, g.2⟩)
            ·
              rw [e_Ma_headForm_207]
              refine k_if (fun h38 => ?_) (fun h38 => ?_)
              ·
                refine k_bd (q_Ma_isDefinition d (by omega) _ _) (fun s_39 x_39 g_39 => ?_)
                obtain ⟨e_39, b_39⟩ := g_39
                have e_39 := e_39.symm
                subst e_39
                refine k_if (fun h40 => ?_) (fun h40 => ?_)
                ·
                  rw [e_Ma_headForm_258]
                  refine k_if (fun h41 => ?_) (fun h41 => ?_)
                  ·
                    refine k_bd (q_No_left d (by omega) _ _) (fun s_42 x_42 g_42 => ?_)
                    obtain ⟨e_42, b_42⟩ := g_42
                    have e_42 := e_42.symm
                    subst e_42
                    rw [e_Ma_headForm_280]
                    refine k_bd (q_Me_trouble d (by omega)  _) (fun s_43 x_43 g_43 => ?_)
                    obtain ⟨e_43, b_43⟩ := g_43
                    have e_43 := e_43.symm
                    subst e_43
                    refine k_if (fun h44 => ?_) (fun h44 => ?_)
                    ·
                      exact k_some ⟨(k_F.puf k_F.rf rfl), (k_b2 (by decide))⟩
                    ·
                      exact k_some ⟨(k_F.puf k_F.rf rfl), (k_b2 (by decide))⟩
                  ·
                    rw [e_Ma_headForm_280]
                    refine k_bd (q_Me_trouble d (by omega)  _) (fun s_45 x_45 g_45 => ?_)
                    obtain ⟨e_45, b_45⟩ := g_45
                    have e_45 := e_45.symm
                    subst e_45
                    refine k_if (fun h46 => ?_) (fun h46 => ?_)
                    ·
                      exact k_some ⟨(k_F.puf k_F.rf rfl), (k_b2 (by decide))⟩
                    ·
                      exact k_some ⟨(k_F.puf k_F.rf rfl), (k_b2 (by decide))⟩
                ·
                  refine k_bd (q_Me_step d (by omega)  _) (fun s_47 x_47 g_47 => ?_)
                  have f_47 : k_F [18, 19, 20, 21, 22, 23, 30] [(1, 1), (27, 5), (27, 10), (27, 11)] s s_47 := k_F.tr k_F.rf (k_F.mono g_47.1 rfl)
                  refine k_if (fun h48 => ?_) (fun h48 => ?_)
                  ·
                    exact k_some ⟨f_47, (k_b2 (by decide))⟩
                  ·
                    refine k_bd (q_No_left d (by omega) _ _) (fun s_49 x_49 g_49 => ?_)
                    obtain ⟨e_49, b_49⟩ := g_49
                    have e_49 := e_49.symm
                    subst e_49
                    refine k_bd (q_Co_bodyRoot d (by omega) _ _) (fun s_50 x_50 g_50 => ?_)
                    obtain ⟨e_50, b_50⟩ := g_50
                    have e_50 := e_50.symm
                    subst e_50
                    rw [e_Ma_headForm_252]
                    rw [e_Ma_headForm_299]
                    exact k_mono (q_Ma_headForm_21 d hd n _ _ _ _ (k_up h1 hn)) (fun σ r g => ⟨k_F.tr f_47 g.1, g.2⟩)
              ·
                rw [e_Ma_headForm_258]
                refine k_if (fun h51 => ?_) (fun h51 => ?_)
                ·
                  refine k_bd (q_No_left d (by omega) _ _) (fun s_52 x_52 g_52 => ?_)
                  obtain ⟨e_52, b_52⟩ := g_52
                  have e_52 := e_52.symm
                  subst e_52
                  rw [e_Ma_headForm_280]
                  refine k_bd (q_Me_trouble d (by omega)  _) (fun s_53 x_53 g_53 => ?_)
                  obtain ⟨e_53, b_53⟩ := g_53
                  have e_53 := e_53.symm
                  subst e_53
                  refine k_if (fun h54 => ?_) (fun h54 => ?_)
                  ·
                    exact k_some ⟨(k_F.puf k_F.rf rfl), (k_b2 (by decide))⟩
                  ·
                    exact k_some ⟨(k_F.puf k_F.rf rfl), (k_b2 (by decide))⟩
                ·
                  rw [e_Ma_headForm_280]
                  refine k_bd (q_Me_trouble d (by omega)  _) (fun s_55 x_55 g_55 => ?_)
                  obtain ⟨e_55, b_55⟩ := g_55
                  have e_55 := e_55.symm
                  subst e_55
                  refine k_if (fun h56 => ?_) (fun h56 => ?_)
                  ·
                    exact k_some ⟨(k_F.puf k_F.rf rfl), (k_b2 (by decide))⟩
                  ·
                    exact k_some ⟨(k_F.puf k_F.rf rfl), (k_b2 (by decide))⟩
      ·
        refine k_if (fun h57 => ?_) (fun h57 => ?_)
        ·
          rw [e_Ma_headForm_319]
          refine k_bd (q_Me_trouble d (by omega)  _) (fun s_58 x_58 g_58 => ?_)
          obtain ⟨e_58, b_58⟩ := g_58
          have e_58 := e_58.symm
          subst e_58
          refine k_if (fun h59 => ?_) (fun h59 => ?_)
          ·
            exact k_some ⟨(k_F.puf k_F.rf rfl), (k_b2 (by decide))⟩
          ·
            exact k_some ⟨(k_F.puf k_F.rf rfl), (k_b2 (by decide))⟩
        ·
          rw [e_Ma_headForm_319]
          refine k_bd (q_Me_trouble d (by omega)  _) (fun s_60 x_60 g_60 => ?_)
          obtain ⟨e_60, b_60⟩ := g_60
          have e_60 := e_60.symm
          subst e_60
          refine k_if (fun h61 => ?_) (fun h61 => ?_)
          ·
            exact k_some ⟨(k_F.puf k_F.rf rfl), (k_b2 (by decide))⟩
          ·
            exact k_some ⟨(k_F.puf k_F.rf rfl), (k_b2 (by decide))⟩
    ·
      refine k_if (fun h62 => ?_) (fun h62 => ?_)
      ·
        rw [e_Ma_headForm_319]
        refine k_bd (q_Me_trouble d (by omega)  _) (fun s_63 x_63 g_63 => ?_)
        obtain ⟨e_63, b_63⟩ := g_63
        have e_63 := e_63.symm
        subst e_63
        refine k_if (fun h64 => ?_) (fun h64 => ?_)
        ·
          exact k_some ⟨(k_F.puf k_F.rf rfl), (k_b2 (by decide))⟩
        ·
          exact k_some ⟨(k_F.puf k_F.rf rfl), (k_b2 (by decide))⟩
      ·
        rw [e_Ma_headForm_319]
        refine k_bd (q_Me_trouble d (by omega)  _) (fun s_65 x_65 g_65 => ?_)
        obtain ⟨e_65, b_65⟩ := g_65
        have e_65 := e_65.symm
        subst e_65
        refine k_if (fun h66 => ?_) (fun h66 => ?_)
        ·
          exact k_some ⟨(k_F.puf k_F.rf rfl), (k_b2 (by decide))⟩
        ·
          exact k_some ⟨(k_F.puf k_F.rf rfl), (k_b2 (by decide))⟩
theorem q_Ma_headForm (d : Nat) (hd : 4 ≤ d) (i1 : Int32) (i2 : Int32) (i3 : Int32) (s : c_S) : k_ok (c_M d 159 [v_r 30, v_i i1, v_i i2, v_i i3] s) (fun σ r => k_F [18, 19, 20, 21, 22, 23, 30] [(1, 1), (27, 5), (27, 10), (27, 11)] s σ ∧ k_b 2 r) := by
  obtain ⟨d, rfl⟩ : ∃ e, d = e + 1 := ⟨d - 1, by omega⟩
  rw [m_Ma_headForm, e_Ma_headForm_0]
  exact k_mono (q_Ma_headForm_21 d hd _ _ _ _ _ (Nat.lt_succ_self _)) (fun σ r g => ⟨k_F.tr (k_F.puf (k_F.puf k_F.rf rfl) rfl) g.1, g.2⟩)
