theorem rd_application (g d : Nat) (hE : rd_HE g d) (hd : 4 ≤ d) (w sc T : Nat) (s : c_S) (hw : 40 ≤ w + g) (hw2 : w < 40) (hsc : s.1 27 5 = nI sc) (hs : sc ≤ w) (hT : s.1 3 7 = nI T) (h1 : 1 ≤ T) (h2 : T ≤ 12800) : k_ok (c_M (d + 2) 204 [v_r 27, v_i (nI w)] s) (r_Q (2 * g + 1) T T s) := by
  have hp : ∀ (T sc : Nat) (s : c_S), s.1 27 5 = nI sc → sc ≤ w → s.1 3 7 = nI T → 1 ≤ T → T ≤ 12800 → k_ok (c_M (d + 1) 205 [v_r 27, v_i (nI (w + 1))] s) (r_Q (2 * g) T T s) := fun T sc s a b c e f => rd_part g d hE hd (w + 1) sc T s (by omega) (by omega) a (by omega) c e f
  rw [m_Re_application, e_Re_application_0, nI_1]
  refine k_bd (hp T sc s hsc hs hT h1 h2) (fun s_1 x_1 g_1 => ?_)
  obtain ⟨f1, sc1, T1, q, t1, le1, le2, rfl, q1, trq, q7, o1⟩ := g_1
  refine k_mono (rd_app (2 * g) (d + 1) T q w (by omega) hp _ _ _ _ sc T1 s_1 (sc1.trans hsc) hs t1 (by omega) le2 le1 trq q1 q7 ⟨[], 0, rfl, fun p hp => (by cases hp), List.Pairwise.nil, rfl, by omega, Or.inl rfl⟩ (Nat.lt_succ_self _)) (fun σ r g => g.comp f1 sc1 o1 le1)
theorem rd_arrow (g d : Nat) (hE : ∀ d', d ≤ d' → rd_HE g d') (hd : 4 ≤ d) (w sc T : Nat) (s : c_S) (hw : 40 ≤ w + g) (hw2 : w < 40) (hsc : s.1 27 5 = nI sc) (hs : sc ≤ w) (hT : s.1 3 7 = nI T) (h1 : 1 ≤ T) (h2 : T ≤ 12800) : k_ok (c_M (d + 3) 203 [v_r 27, v_i (nI w)] s) (r_Q (2 * g + 2) T T s) := by
  rw [m_Re_arrow, e_Re_arrow_0]
  refine k_bd (q_Ta_place (d + 2) (by omega) _) (fun s_1 x_1 g_1 => ?_)
  obtain ⟨rfl, -⟩ := g_1
  refine k_bd (rd_application g d (hE d (Nat.le_refl _)) hd w sc T _ hw hw2 hsc hs hT h1 h2) (fun s_2 x_2 g_2 => ?_)
  have same : k_ok (b_Re_arrow_33 (c_M (d + 2)) x_2 s_2) (r_Q (2 * g + 2) T T s_1) := by
    rw [e_Re_arrow_33]
    exact k_some (g_2.up (by omega) (Nat.le_refl _) (Nat.le_refl _))
  refine k_if (fun _ => ?_) (fun _ => same)
  refine k_bd (q_Ta_token (d + 2) (by omega) _) (fun s_3 x_3 g_3 => ?_)
  obtain ⟨rfl, -⟩ := g_3
  refine k_if (fun _ => ?_) (fun _ => same)
  rw [e_Re_arrow_35]
  refine k_bd (q_Ta_place (d + 2) (by omega) _) (fun s_4 x_4 g_4 => ?_)
  obtain ⟨rfl, -⟩ := g_4
  refine k_bd (q_Re_countPart (d + 2) (by omega) _) (fun s_5 x_5 g_5 => ?_)
  have q5 : r_s s_4 s_5 := r_s.of g_5.1 rfl
  refine k_if (fun _ => k_some ((g_2.post q5.1 q5.2 (Nat.le_refl _)).none h1)) (fun _ => ?_)
  obtain ⟨f1, sc1, T1, a, t1, le1, le2, rfl, a1, tra, a7, o1⟩ := g_2
  refine k_bd (q_Ta_advance (d + 2) (by omega) _) (fun s_6 x_6 g_6 => ?_)
  have q6 : r_s s_4 s_6 := q5.tr (r_s.of g_6.1 rfl)
  refine k_bd (q2_enter (d + 2) (by omega) _ _ _) (fun s_7 x_7 g_7 => ?_)
  obtain ⟨q7, e7⟩ := g_7
  have sc7 : s_7.1 27 5 = nI (sc + 1) := by rw [e7, q6.2, sc1, hsc]; exact nI_1 sc
  rw [nI_1]
  refine k_bd (hE (d + 2) (by omega) (w + 1) (sc + 1) T1 s_7 (by omega) (by omega) sc7 (by omega) (by rw [q7.top, q6.1.top]; exact t1) (by omega) le2) (fun s_8 x_8 g_8 => ?_)
  obtain ⟨f8, sc8, T2, b, t8, le8, le9, rfl, b1, trb, b7, o8⟩ := g_8
  rw [e_Re_arrow_76]
  refine k_bd (q2_leave (d + 2) (by omega) _) (fun s_9 x_9 g_9 => ?_)
  obtain ⟨q9, e9⟩ := g_9
  have t9 : s_9.1 3 7 = nI T2 := by rw [q9.top]; exact t8
  refine k_bd (rd_node (d + 2) (by omega) _ _ _ _ _ _ t9 (by omega) le9) (fun s_10 x_10 g_10 => k_some ?_)
  have old : r_old T1 s_4 s_9 := (q6.1.old.tr q7.old).tr (o8.tr q9.old)
  refine r_bind (K := 2 * g + 1) (sa := s_4) (Ta := T1) (Or.inl rfl) (k_F.tr f1 (k_F.tr (k_F.mono q6.1 rfl) (k_F.tr (k_F.mono q7 rfl) (k_F.tr f8 (k_F.mono q9 rfl))))) ?_ (o1.tr (old.le le1)) h1 le1 (Nat.le_refl _) tra a1 old (t_r_up _ _ _ _ _ (by omega) le1 (t_r_old trb b1 q9.old)) b1 t9 le8 le9 g_10
  rw [e9, sc8, sc7, hsc]; exact nI_pred sc
theorem rd_binding (g d : Nat) (hE : rd_HE g d) (hd : 4 ≤ d) (w sc T : Nat) (s : c_S) (hw : 40 ≤ w + g) (hw2 : w < 40) (hsc : s.1 27 5 = nI sc) (hs : sc ≤ w) (hT : s.1 3 7 = nI T) (h1 : 1 ≤ T) (h2 : T ≤ 12800) : k_ok (c_M (d + 1) 202 [v_r 27, v_i (nI w)] s) (r_Q (2 * g + 1) T T s) := by
  have main : ∀ t0 : Int32, k_ok (b_Re_binding_17 (c_M d) (nI w) t0 s) (r_Q (2 * g + 1) T T s) := by
    intro t0
    rw [e_Re_binding_17]
    refine k_bd (q_Ta_place d (by omega) _) (fun s_1 x_1 g_1 => ?_)
    obtain ⟨rfl, -⟩ := g_1
    refine k_bd (q_Re_countPart d (by omega) _) (fun s_2 x_2 g_2 => ?_)
    have q2 : r_s s_1 s_2 := r_s.of g_2.1 rfl
    refine k_if (fun _ => k_some (r_Q.zero q2.1 q2.2 hT h1 h2)) (fun _ => ?_)
    refine k_bd (q_Ta_advance d (by omega) _) (fun s_3 x_3 g_3 => ?_)
    have q3 : r_s s_1 s_3 := q2.tr (r_s.of g_3.1 rfl)
    refine k_bd (q_Ta_place d (by omega) _) (fun s_4 x_4 g_4 => ?_)
    obtain ⟨rfl, -⟩ := g_4
    rw [e_Re_binding_51]
    refine k_bd (q_Ta_wordLength d (by omega) _) (fun s_5 x_5 g_5 => ?_)
    obtain ⟨rfl, -⟩ := g_5
    refine k_bd (q_Re_take d (by omega) _ _) (fun s_6 x_6 g_6 => ?_)
    have q6 : r_s s_1 s_6 := q3.tr (r_s.of g_6.1 rfl)
    refine k_bd (q_Re_take d (by omega) _ _) (fun s_7 x_7 g_7 => ?_)
    have q7 : r_s s_1 s_7 := q6.tr (r_s.of g_7.1 rfl)
    rw [nI_1]
    refine k_bd (hE (w + 1) sc T s_7 (by omega) (by omega) (q7.sc hsc) (by omega) (q7.top hT) h1 h2) (fun s_8 x_8 g_8 => ?_)
    obtain ⟨f8, sc8, T1, a, t8, le8, le9, rfl, a1, tra, a7, o8⟩ := g_8
    have rest : ∀ t1 : Int32, k_ok (b_Re_binding_92 (c_M d) (nI w) t0 x_1 x_4 x_5 (nI a) t1 s_8) (r_Q (2 * g + 1) T T s_1) := by
      intro t1
      rw [e_Re_binding_92]
      refine k_bd (q_Re_take d (by omega) _ _) (fun s_9 x_9 g_9 => ?_)
      have q9 : r_s s_8 s_9 := r_s.of g_9.1 rfl
      refine k_bd (q2_enter d (by omega) _ _ _) (fun s_10 x_10 g_10 => ?_)
      obtain ⟨q10, e10⟩ := g_10
      have sc10 : s_10.1 27 5 = nI (sc + 1) := by rw [e10, q9.2, sc8, q7.2, hsc]; exact nI_1 sc
      rw [nI_1]
      refine k_bd (hE (w + 1) (sc + 1) T1 s_10 (by omega) (by omega) sc10 (by omega) (by rw [q10.top, q9.1.top]; exact t8) (by omega) le9) (fun s_11 x_11 g_11 => ?_)
      obtain ⟨f11, sc11, T2, b, t11, le11, le12, rfl, b1, trb, b7, o11⟩ := g_11
      refine k_bd (q2_leave d (by omega) _) (fun s_12 x_12 g_12 => ?_)
      obtain ⟨q12, e12⟩ := g_12
      have t12 : s_12.1 3 7 = nI T2 := by rw [q12.top]; exact t11
      have old : r_old T1 s_8 s_12 := (q9.1.old.tr q10.old).tr (o11.tr q12.old)
      have make : ∀ kd : Int32, kd = 2 ∨ kd = 3 → k_ok (b_Re_binding_126 (c_M d) x_1 (nI a) (nI b) kd s_12) (r_Q (2 * g + 1) T T s_1) := by
        intro kd hkd
        rw [e_Re_binding_126]
        refine k_bd (rd_node d (by omega) _ _ _ _ _ _ t12 (by omega) le12) (fun s_13 x_13 g_13 => k_some ?_)
        refine r_bind (K := 2 * g) (sa := s_8) (Ta := T1) hkd (k_F.tr (k_F.mono q7.1 rfl) (k_F.tr f8 (k_F.tr (k_F.mono q9.1 rfl) (k_F.tr (k_F.mono q10 rfl) (k_F.tr f11 (k_F.mono q12 rfl)))))) ?_ ((q7.1.old.tr o8).tr (old.le le8)) h1 le8 (Nat.le_refl _) tra a1 old (t_r_up _ _ _ _ _ (Nat.le_refl _) le8 (t_r_old trb b1 q12.old)) b1 t12 le11 le12 g_13
        rw [e12, sc11, sc10, hsc]; exact nI_pred sc
      exact k_if (fun _ => make 3 (Or.inr rfl)) (fun _ => make 2 (Or.inl rfl))
    exact k_if (fun _ => rest 93) (fun _ => rest 125)
  rw [m_Re_binding, e_Re_binding_0]
  refine k_bd (q_Ta_token d (by omega) _) (fun s_1 x_1 g_1 => ?_)
  obtain ⟨rfl, -⟩ := g_1
  exact k_if (fun _ => main 1) (fun _ => main 0)
theorem rd_E : ∀ (f d : Nat), 4 * f + 8 ≤ d → rd_HE f d
  | 0, d, hd => fun w sc T s hw hw2 hsc hs hT h1 h2 => by
    obtain ⟨d, rfl⟩ : ∃ e, d = e + 1 := ⟨d - 1, by omega⟩
    have hno : ¬ nI w < (40 : Int32) := nI_nlt (b := 40) (by omega) (by omega)
    have ref : ∀ (k : Int32), k_ok (c_bd (c_M d 199 [v_r 27, v_i k] s) fun s3 x3 => some (s3, x3)) (r_Q (2 * 0) T T s) := fun k => by
      refine k_bd (q2_Re_refuse d (by omega) _ _) (fun s_1 x_1 g_1 => ?_)
      obtain ⟨q1, rfl⟩ := g_1
      exact k_some (r_Q.zero q1.1 q1.2 hT h1 h2)
    have e52 : ∀ i3 : Int32, k_ok (b_Re_expression_52 (c_M d) (nI w) i3 s) (r_Q (2 * 0) T T s) := fun i3 => by
      rw [e_Re_expression_52, if_neg hno]; exact ref _
    have e34 : ∀ t0 : Int32, k_ok (b_Re_expression_34 (c_M d) (nI w) t0 s) (r_Q (2 * 0) T T s) := fun t0 => by
      rw [e_Re_expression_34]
      refine k_if (fun _ => ?_) (fun _ => e52 _)
      refine k_bd (q_Re_startsPart d (by omega) _) (fun s_1 x_1 g_1 => ?_)
      obtain ⟨rfl, -⟩ := g_1
      exact k_if (fun _ => ref _) (fun _ => e52 _)
    rw [m_Re_expression, e_Re_expression_0]
    refine k_if (fun _ => ?_) (fun _ => k_some (r_Q.zero k_F.rf rfl hT h1 h2))
    refine k_bd (q_Ta_token d (by omega) _) (fun s_1 x_1 g_1 => ?_)
    obtain ⟨rfl, -⟩ := g_1
    exact k_if (fun _ => e34 _) (fun _ => k_if (fun _ => e34 _) (fun _ => e34 _))
  | g + 1, d, hd => fun w sc T s hw hw2 hsc hs hT h1 h2 => by
    obtain ⟨d, rfl⟩ : ∃ e, d = e + 4 := ⟨d - 4, by omega⟩
    have ref : ∀ (k : Int32), k_ok (c_bd (c_M (d + 3) 199 [v_r 27, v_i k] s) fun s3 x3 => some (s3, x3)) (r_Q (2 * (g + 1)) T T s) := fun k => by
      refine k_bd (q2_Re_refuse (d + 3) (by omega) _ _) (fun s_1 x_1 g_1 => ?_)
      obtain ⟨q1, rfl⟩ := g_1
      exact k_some (r_Q.zero q1.1 q1.2 hT h1 h2)
    have e52 : ∀ i3 : Int32, k_ok (b_Re_expression_52 (c_M (d + 3)) (nI w) i3 s) (r_Q (2 * (g + 1)) T T s) := fun i3 => by
      rw [e_Re_expression_52]
      refine k_if (fun h40 => ?_) (fun _ => ref _)
      have hw40 : w < 40 := (nI_ltI (a := w) (b := 40) (by omega) (by decide)).mp h40
      refine k_if (fun _ => ?_) (fun _ => ?_)
      · exact k_bd (rd_arrow g d (fun d' hd' => rd_E g d' (by omega)) (by omega) w sc T s (by omega) hw40 hsc hs hT h1 h2) (fun s_1 x_1 g_1 => k_some (g_1.up (by omega) (Nat.le_refl _) (Nat.le_refl _)))
      · exact k_bd (rd_binding g (d + 2) (rd_E g (d + 2) (by omega)) (by omega) w sc T s (by omega) hw40 hsc hs hT h1 h2) (fun s_1 x_1 g_1 => k_some (g_1.up (by omega) (Nat.le_refl _) (Nat.le_refl _)))
    have e34 : ∀ t0 : Int32, k_ok (b_Re_expression_34 (c_M (d + 3)) (nI w) t0 s) (r_Q (2 * (g + 1)) T T s) := fun t0 => by
      rw [e_Re_expression_34]
      refine k_if (fun _ => ?_) (fun _ => e52 _)
      refine k_bd (q_Re_startsPart (d + 3) (by omega) _) (fun s_1 x_1 g_1 => ?_)
      obtain ⟨rfl, -⟩ := g_1
      exact k_if (fun _ => ref _) (fun _ => e52 _)
    rw [m_Re_expression, e_Re_expression_0]
    refine k_if (fun _ => ?_) (fun _ => k_some (r_Q.zero k_F.rf rfl hT h1 h2))
    refine k_bd (q_Ta_token (d + 3) (by omega) _) (fun s_1 x_1 g_1 => ?_)
    obtain ⟨rfl, -⟩ := g_1
    exact k_if (fun _ => e34 _) (fun _ => k_if (fun _ => e34 _) (fun _ => e34 _))
/-- a whole expression: its tree is at most 84 high -/
def r_W (T : Nat) (s σ : c_S) (r : Int32) : Prop := k_F [1, 3, 4, 5, 6, 7, 8, 9, 10, 27, 28, 29] [(1, 1), (27, 10), (27, 11)] s σ ∧ ∃ T' n, σ.1 3 7 = nI T' ∧ T ≤ T' ∧ T' ≤ 12800 ∧ r = nI n ∧ n < T' ∧ t_r σ 84 T n ∧ r_old T s σ
theorem r_W.post {T : Nat} {s σ σ1 : c_S} {r : Int32} (g : r_W T s σ r) (h : r_q σ σ1) : r_W T s σ1 r := by
  obtain ⟨g1, T', n, e1, e2, e3, e4, e5, e6, e8⟩ := g
  exact ⟨k_F.tr g1 (k_F.mono h rfl), T', n, by rw [h.top]; exact e1, e2, e3, e4, e5, t_r_old e6 e5 h.old, e8.tr h.old⟩
theorem rd_whole (d : Nat) (hd : 180 ≤ d) (T : Nat) (s : c_S) (hT : s.1 3 7 = nI T) (h1 : 1 ≤ T) (h2 : T ≤ 12800) : k_ok (c_M d 200 [v_r 27] s) (r_W T s) := by
  obtain ⟨d, rfl⟩ : ∃ e, d = e + 1 := ⟨d - 1, by omega⟩
  rw [m_Re_wholeExpression, e_Re_wholeExpression_0]
  refine k_bd (rd_E 42 d (by omega) 0 0 T (c_put (c_put s 27 6 0) 27 5 0) (by omega) (by omega) (by rw [c_put_same]; rfl) (by omega) (by rw [c_put_off (by decide), c_put_off (by decide)]; exact hT) h1 h2) (fun s_1 x_1 g_1 => k_some ?_)
  obtain ⟨f1, -, T1, a, t1, le1, le2, e1, a1, tra, a7, o1⟩ := g_1
  refine ⟨k_F.tr (k_F.puf (k_F.puf k_F.rf rfl) rfl) f1, T1, a, t1, le1, le2, e1, a1, tra, ?_⟩
  intro m hm
  obtain ⟨w1, w2, w3, w4⟩ := o1 m hm
  rw [w1, w2, w3, w4]
  exact ⟨by rw [c_put_off (by decide), c_put_off (by decide)], by rw [c_put_off (by decide), c_put_off (by decide)], by rw [c_put_off (by decide), c_put_off (by decide)], by rw [c_put_off (by decide), c_put_off (by decide)]⟩
theorem rd_before (d : Nat) (hd : 181 ≤ d) (i1 : Int32) (T : Nat) (s : c_S) (hT : s.1 3 7 = nI T) (h1 : 1 ≤ T) (h2 : T ≤ 12800) : k_ok (c_M d 196 [v_r 27, v_i i1] s) (r_W T s) := by
  obtain ⟨d, rfl⟩ : ∃ e, d = e + 1 := ⟨d - 1, by omega⟩
  rw [m_Re_expressionBefore, e_Re_expressionBefore_0]
  refine k_bd (rd_whole d (by omega) T s hT h1 h2) (fun s_1 x_1 g_1 => ?_)
  refine k_bd (q_Re_take d (by omega) _ _) (fun s_2 x_2 g_2 => k_some ?_)
  exact g_1.post (k_F.mono g_2.1 rfl)
