/-- what a declaration that was read leaves -/
def r_D (T : Nat) (s σ : c_S) : Prop := k_F [1, 3, 4, 5, 6, 7, 8, 9, 10, 27, 28, 29] [(1, 1)] s σ ∧ ∃ T' a b, σ.1 3 7 = nI T' ∧ T ≤ T' ∧ T' ≤ 12800 ∧ σ.1 27 10 = nI a ∧ a < T' ∧ t_r σ 84 T a ∧ σ.1 27 11 = nI b ∧ b < T' ∧ t_r σ 84 T b
theorem rd_decl (d : Nat) (hd : 182 ≤ d) (T : Nat) (s : c_S) (hT : s.1 3 7 = nI T) (h1 : 1 ≤ T) (h2 : T ≤ 12800) : k_ok (c_M d 195 [v_r 27] s) (fun σ _ => r_D T s σ) := by
  obtain ⟨d, rfl⟩ : ∃ e, d = e + 1 := ⟨d - 1, by omega⟩
  rw [m_Re_faultOfDeclaration, e_Re_faultOfDeclaration_0]
  refine k_bd (q_Re_readNewName d (by omega) _) (fun s_1 x_1 g_1 => ?_)
  refine k_bd (q_Re_take d (by omega) _ _) (fun s_2 x_2 g_2 => ?_)
  have k2 : k_F [1, 27] [(1, 1), (27, 5), (27, 10), (27, 11)] (c_put s 27 11 0) s_2 := k_F.tr (k_F.mono g_1.1 rfl) (k_F.mono g_2.1 rfl)
  have f2 : k_F [1, 27] [(1, 1)] s s_2 := k_F.tr (k_F.puf k_F.rf rfl) (k_F.mono k2 rfl)
  have b2 : s_2.1 27 11 = 0 := by rw [k2.2.1 (27, 11) (by decide)]; exact c_put_same
  have t2 : s_2.1 3 7 = nI T := by rw [f2.1 3 rfl]; exact hT
  refine k_bd (rd_whole d (by omega) T s_2 t2 h1 h2) (fun s_3 x_3 g_3 => ?_)
  obtain ⟨f3, T1, a, t3, le1, le2, rfl, a1, tra, o3⟩ := g_3
  have b3 : s_3.1 27 11 = 0 := (f3.2.1 (27, 11) (by decide)).trans b2
  have put : r_q s_3 (c_put s_3 27 10 (nI a)) → True := fun _ => trivial
  have tra' : t_r (c_put s_3 27 10 (nI a)) 84 T a := t_r_fr 84 a (fun m _ _ => ⟨by rw [c_put_off (by decide)], by rw [c_put_off (by decide)], by rw [c_put_off (by decide)]⟩) (fun m _ _ => by rw [c_put_off (by decide)]) tra
  have fin : ∀ (s4 : c_S) (T' b : Nat), k_F [1, 3, 4, 5, 6, 7, 8, 9, 10, 27, 28, 29] [(1, 1)] s s4 → s4.1 3 7 = nI T' → T1 ≤ T' → T' ≤ 12800 → s4.1 27 10 = nI a → t_r s4 84 T a → s4.1 27 11 = nI b → b < T' → t_r s4 84 T b → k_ok (b_Re_faultOfDeclaration_57 (c_M d) s4) (fun σ _ => r_D T s σ) := by
    intro s4 T' b f4 t4 le3 le4 a4 ta4 b4 b4' tb4
    rw [e_Re_faultOfDeclaration_57]
    refine k_bd (q_Re_take d (by omega) _ _) (fun s_5 x_5 g_5 => k_some ?_)
    have q5 : r_q s4 s_5 := k_F.mono g_5.1 rfl
    refine ⟨k_F.tr f4 (k_F.mono g_5.1 rfl), T', a, b, by rw [q5.top]; exact t4, by omega, le4, ?_, by omega, t_r_old ta4 (by omega) (q5.old (T := T')), ?_, b4', t_r_old tb4 b4' q5.old⟩
    · rw [g_5.1.2.1 (27, 10) (by decide)]; exact a4
    · rw [g_5.1.2.1 (27, 11) (by decide)]; exact b4
  have fp : k_F [1, 3, 4, 5, 6, 7, 8, 9, 10, 27, 28, 29] [(1, 1)] s (c_put s_3 27 10 (nI a)) := k_F.puf (k_F.tr (k_F.mono f2 rfl) (k_F.mono f3 rfl)) rfl
  have tp : (c_put s_3 27 10 (nI a)).1 3 7 = nI T1 := by rw [c_put_off (by decide)]; exact t3
  have bp : (c_put s_3 27 10 (nI a)).1 27 11 = nI 0 := by rw [c_put_get, if_neg (by decide), b3]; rfl
  refine k_if (fun _ => ?_) (fun _ => fin _ T1 0 fp tp (Nat.le_refl _) le2 c_put_same tra' bp (by omega) t_r_0)
  refine k_bd (q_Ta_token d (by omega) _) (fun s_4 x_4 g_4 => ?_)
  obtain ⟨e4, -⟩ := g_4
  subst e4
  refine k_if (fun _ => ?_) (fun _ => fin _ T1 0 fp tp (Nat.le_refl _) le2 c_put_same tra' bp (by omega) t_r_0)
  refine k_bd (q_Ta_advance d (by omega) _) (fun s_5 x_5 g_5 => ?_)
  have q5 : r_q (c_put s_3 27 10 (nI a)) s_5 := k_F.mono g_5.1 rfl
  rw [e_Re_faultOfDeclaration_49]
  have t5 : s_5.1 3 7 = nI T1 := by rw [q5.top]; exact tp
  refine k_bd (rd_whole d (by omega) T1 s_5 t5 (by omega) le2) (fun s_6 x_6 g_6 => ?_)
  obtain ⟨f6, T2, b, t6, le3, le4, rfl, b1, trb, o6⟩ := g_6
  refine fin (c_put s_6 27 11 (nI b)) T2 b ?_ (by rw [c_put_off (by decide)]; exact t6) le3 le4 ?_ ?_ c_put_same b1 ?_
  · exact k_F.puf (k_F.tr fp (k_F.tr (k_F.mono q5 rfl) (k_F.mono f6 rfl))) rfl
  · rw [c_put_get, if_neg (by decide), f6.2.1 (27, 10) (by decide), q5.2.1 (27, 10) (by decide)]; exact c_put_same
  · refine t_r_fr 84 a (fun m _ _ => ⟨by rw [c_put_off (by decide)], by rw [c_put_off (by decide)], by rw [c_put_off (by decide)]⟩) (fun m _ _ => by rw [c_put_off (by decide)]) (t_r_old (t_r_old tra' a1 q5.old) a1 o6)
  · refine t_r_fr 84 b (fun m _ _ => ⟨by rw [c_put_off (by decide)], by rw [c_put_off (by decide)], by rw [c_put_off (by decide)]⟩) (fun m _ _ => by rw [c_put_off (by decide)]) (t_r_up _ _ _ _ _ (Nat.le_refl _) le1 trb)
theorem cl_check (d : Nat) (hd : 815 ≤ d) (lo a b : Nat) (s : c_S) (ha : t_r s 84 lo a) (ha2 : a < 12800) (hb : t_r s 84 lo b) (hb2 : b < 12800) : k_ok (c_M d 117 [v_r 32, v_i (nI a), v_i (nI b)] s) (fun σ _ => q_C s σ) := by
  obtain ⟨d, rfl⟩ : ∃ e, d = e + 2 := ⟨d - 2, by omega⟩
  rw [m_Ck_faultOfDeclaration, e_Ck_faultOfDeclaration_0]
  have c0 : q_C s (c_put s 32 6 0) := q_C.of (S := [32]) (k_F.puf k_F.rf rfl) rfl
  have e17 : ∀ t0 : Int32, k_ok (b_Ck_faultOfDeclaration_17 (c_M (d + 1)) (nI a) (nI b) t0 0 (nI a) (c_put s 32 6 0)) (fun σ _ => q_C s σ) := fun t0 => by
    rw [e_Ck_faultOfDeclaration_17]
    refine k_bd ((ck_all 84).2 (d + 1) (by omega) lo a _ _ _ (t_r_nc c0 84 lo a ha) ha2) (fun s_1 x_1 g_1 => ?_)
    have c1 := c0.tr g_1
    have cp : ∀ x : Int32, q_C s (c_put s_1 32 7 x) := fun x => c1.tr (q_C.of (S := [32]) (k_F.puf k_F.rf rfl) rfl)
    refine k_if (fun _ => k_if (fun _ => k_some (cp _)) (fun _ => k_some (cp _))) (fun _ => ?_)
    exact k_bd (ck_fit 84 d (by omega) ((ck_all 84).1 d (by omega)) lo b _ _ _ _ (t_r_nc (cp 2) 84 lo b hb) hb2) (fun s_2 x_2 g_2 => k_some ((cp 2).tr g_2))
  exact k_if (fun _ => e17 1) (fun _ => e17 0)
theorem r_D.y {T : Nat} {s σ : c_S} (h : r_D T s σ) : y_F s σ := k_F.mono h.1 rfl
theorem cl_decl_8 (d : Nat) (hd : 820 ≤ d) : ∀ (n : Nat) (i1 i2 : Int32) (s : c_S), y_T s → k_m i2 < n → k_ok (b_Fb_declare_8 (c_M d) i1 i2 s) (fun σ _ => y_P0 s σ)
  | 0, _, _, _, _, hn => absurd hn (Nat.not_lt_zero _)
  | n + 1, i1, i2, s, hT, hn => by
    have fin : k_ok (b_Fb_declare_146 (c_M d) i1 s) (fun σ _ => y_P0 s σ) := by
      rw [e_Fb_declare_146]; exact cl_end d (by omega) s s _ ⟨k_F.rf, hT⟩
    rw [e_Fb_declare_8]
    refine k_if (fun h2 => k_if (fun _ => ?_) (fun _ => fin)) (fun _ => fin)
    refine k_bd (q_Ta_atEnd d (by omega) _) (fun s_1 x_1 g_1 => ?_)
    obtain ⟨rfl, -⟩ := g_1
    refine k_if (fun _ => ?_) (fun _ => fin)
    refine k_bd (q_No_mark d (by omega) _) (fun s_2 x_2 g_2 => ?_)
    obtain ⟨rfl, -⟩ := g_2
    obtain ⟨T, h1, h3, eT⟩ := id hT
    refine k_bd (rd_decl d (by omega) T s_2 eT h1 h3) (fun s_3 x_3 g_3 => ?_)
    have y3 := g_3.y
    obtain ⟨f3, T', a, b, t3, le1, le2, a3, a3', ta, b3, b3', tb⟩ := g_3
    have p3 : y_P s_2 s_3 := ⟨y3, T', by omega, le2, t3⟩
    have e71 : ∀ (x : Int32) (s4 : c_S), y_P s_2 s4 → k_ok (b_Fb_declare_71 (c_M d) x i2 x_2 s4) (fun σ _ => y_P0 s_2 σ) := fun x s4 p4 => by
      rw [e_Fb_declare_71]
      refine k_if (fun _ => ?_) (fun _ => ?_)
      · refine k_bd (q_Re_namePlace d (by omega) _) (fun s_5 x_5 g_5 => ?_)
        obtain ⟨rfl, -⟩ := g_5
        refine k_bd (q_Re_nameLength d (by omega) _) (fun s_6 x_6 g_6 => ?_)
        obtain ⟨rfl, -⟩ := g_6
        refine k_bd (q_Co_name d (by omega) _ _ _) (fun s_7 x_7 g_7 => ?_)
        have p7 : y_P s_2 s_7 := ⟨p4.1.tr (k_F.mono g_7.1 rfl), p4.2.of g_7.1 rfl⟩
        refine k_bd (q_Ck_sort d (by omega) _) (fun s_8 x_8 g_8 => ?_)
        obtain ⟨rfl, -⟩ := g_8
        refine k_bd (q_Re_typeRoot d (by omega) _) (fun s_9 x_9 g_9 => ?_)
        obtain ⟨rfl, -⟩ := g_9
        refine k_bd (q_Re_bodyRoot d (by omega) _) (fun s_10 x_10 g_10 => ?_)
        obtain ⟨rfl, -⟩ := g_10
        refine k_bd (q_Co_add d (by omega) _ _ _ _ _) (fun s_11 x_11 g_11 => ?_)
        have p11 : y_P s_2 s_11 := ⟨p7.1.tr (k_F.mono g_11.1 rfl), p7.2.of g_11.1 rfl⟩
        exact k_mono (cl_decl_8 d hd n _ _ s_11 p11.2 (k_up h2 hn)) (fun σ r g => g.pre p11.1)
      · refine k_bd (q2_release d (by omega) _ _ p4.2) (fun s_5 x_5 g_5 => ?_)
        exact k_mono (cl_decl_8 d hd n _ _ s_5 g_5.2 (k_up h2 hn)) (fun σ r g => g.pre (p4.1.tr (k_F.mono g_5.1 rfl)))
    rw [e_Fb_declare_45]
    refine k_if (fun _ => ?_) (fun _ => e71 _ _ p3)
    obtain ⟨d, rfl⟩ : ∃ e, d = e + 1 := ⟨d - 1, by omega⟩
    rw [m_Re_typeRoot, e_Re_typeRoot_0, c_bd_some, m_Re_bodyRoot, e_Re_bodyRoot_0, c_bd_some, a3, b3]
    exact k_bd (cl_check (d + 1) (by omega) T a b s_3 ta (by omega) tb (by omega)) (fun s_4 x_4 g_4 => e71 _ _ ⟨p3.1.tr g_4.y, g_4.yT p3.2⟩)
theorem cl_declare (d : Nat) (hd : 821 ≤ d) (s : c_S) (hT : y_T s) : k_ok (c_M d 1 [v_r 0] s) (fun σ _ => y_P0 s σ) := by
  obtain ⟨d, rfl⟩ : ∃ e, d = e + 1 := ⟨d - 1, by omega⟩
  rw [m_Fb_declare, e_Fb_declare_0]
  refine k_bd (q_Fb_begin d (by omega) _) (fun s_1 x_1 g_1 => ?_)
  exact k_mono (cl_decl_8 d (by omega) _ _ _ s_1 (hT.of g_1.1 rfl) (Nat.lt_succ_self _)) (fun σ r g => g.pre (k_F.mono g_1.1 rfl))
theorem cl_forget (d : Nat) (hd : 4 ≤ d) (a : Int32) (s : c_S) (hT : y_T s) : k_ok (c_M d 9 [v_r 0, v_i a] s) (fun σ _ => y_P s σ ∧ σ.1 1 1 = s.1 1 1) := by
  have h := q_Fb_forget d (by omega) a s
  obtain ⟨d, rfl⟩ : ∃ e, d = e + 2 := ⟨d - 2, by omega⟩
  have key : k_ok (c_M (d + 2) 9 [v_r 0, v_i a] s) (fun σ _ => y_T σ) := by
    rw [m_Fb_forget, e_Fb_forget_0]
    refine k_if (fun _ => k_some hT) (fun _ => ?_)
    refine k_bd (q_Co_number (d + 1) (by omega) _) (fun s_1 x_1 g_1 => ?_)
    obtain ⟨rfl, -⟩ := g_1
    refine k_if (fun _ => k_some hT) (fun _ => ?_)
    have hd2 : k_ok (c_M (d + 1) 140 [v_r 11, v_i a] s_1) (fun σ _ => y_T σ) := by
      rw [m_Co_drop, e_Co_drop_0]
      refine k_if (fun _ => k_if (fun _ => k_some hT) (fun h0 => k_if (fun h1 => ?_) (fun _ => k_some hT))) (fun _ => k_some hT)
      refine k_rg (k_in h0 h1 (by decide)) ?_
      exact k_bd (q2_release d (by omega) _ _ (hT.of (S := [11]) (X := []) (k_F.puf k_F.rf rfl) rfl)) (fun s_2 x_2 g_2 => k_some g_2.2)
    refine k_bd hd2 (fun s_2 x_2 g_2 => ?_)
    refine k_bd (q_Co_number (d + 1) (by omega) _) (fun s_3 x_3 g_3 => ?_)
    obtain ⟨rfl, -⟩ := g_3
    exact k_some g_2
  obtain ⟨σ, r, e, f, -⟩ := h
  obtain ⟨σ', r', e', t⟩ := key
  rw [e] at e'
  cases e'
  exact ⟨σ, r, e, ⟨k_F.mono f rfl, t⟩, f.2.1 (1, 1) (by decide)⟩
