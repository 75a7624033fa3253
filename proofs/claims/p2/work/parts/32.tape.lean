/-! feed on both sides: the bytes come in one by one -/
def by_c (x : Int64) (k : Int32) : Int32 := (x >>> (k.toInt64 &&& 63)).toInt32 &&& 255
def by_1 (n : Nat) : Nat := if n < 4000 then n + 1 else n
def by_n (n : Nat) (c : Int32) : Nat := if c = 10 then by_1 n else if c < 32 then n else if 126 < c then n else by_1 n
theorem by_1_le {n : Nat} (h : n ≤ 4000) : by_1 n ≤ 4000 := by unfold by_1; split <;> omega
theorem by_n_le {n : Nat} (c : Int32) (h : n ≤ 4000) : by_n n c ≤ 4000 := by
  unfold by_n; split
  · exact by_1_le h
  · split
    · exact h
    · split
      · exact h
      · exact by_1_le h
theorem by_Pc {x : Int64} {k : Int32} (h : by_P x k) : ((x.toUInt64 >>> (k.toInt64.toUInt64 &&& Int64.toUInt64 63)).toInt64 &&& 255).toInt32 = by_c x k := h
/-- what a byte on the class's TAPE leaves as it was -/
def fr_T (s s' : c_S) : Prop := (∀ a, a ≠ 1 → a ≠ 2 → s'.1 a = s.1 a) ∧ (∀ i, i ≠ 1 → s'.1 1 i = s.1 1 i) ∧ s'.2 = s.2
theorem fr_T.rf (s : c_S) : fr_T s s := ⟨fun _ _ _ => rfl, fun _ _ => rfl, rfl⟩
theorem fr_T.tr {s t u : c_S} (h : fr_T s t) (k : fr_T t u) : fr_T s u := ⟨fun a h1 h2 => (k.1 a h1 h2).trans (h.1 a h1 h2), fun i hi => (k.2.1 i hi).trans (h.2.1 i hi), k.2.2.trans h.2.2⟩
theorem ta_43 (C : c_C) (x : Int64) (k c t0 : Int32) (s : c_S) {n : Nat} (ht : t0 ≠ 0) (hn : n ≤ 4000) (hs : s.1 1 1 = nI n) : ∃ s', b_Ta_append_43 C x k c t0 s = b_Ta_append_3 C x (k + (-8)) s' ∧ s'.1 1 1 = nI (by_1 n) ∧ fr_T s s' := by
  rw [e_Ta_append_43, if_neg ht, hs, if_neg (nI_pos (by omega))]
  unfold by_1
  by_cases h : n < 4000
  · rw [if_pos (show nI n < (4000 : Int32) from nI_lt (b := 4000) h (by decide)), c_rg_nI h (by decide), if_pos h]
    refine ⟨_, rfl, ?_, ?_, ?_, rfl⟩
    · rw [c_put_same]; exact nI_1 n
    · intro a h1 h2; rw [c_put_ne h1, c_put_ne h2]
    · intro i hi; rw [c_put_get, if_neg hi, c_put_off (by decide)]
  · rw [if_neg (show ¬ nI n < (4000 : Int32) from nI_nlt (b := 4000) (by omega) (by omega)), if_neg h]
    exact ⟨s, rfl, hs, fr_T.rf s⟩
theorem ta_step (C : c_C) (x : Int64) (k : Int32) (s : c_S) {n : Nat} (hk : ¬ k < 0) (hb : by_P x k) (hn : n ≤ 4000) (hs : s.1 1 1 = nI n) : ∃ s', b_Ta_append_3 C x k s = b_Ta_append_3 C x (k + (-8)) s' ∧ s'.1 1 1 = nI (by_n n (by_c x k)) ∧ fr_T s s' := by
  rw [e_Ta_append_3, if_neg hk, by_Pc hb]
  generalize by_c x k = c
  have h0 : ∃ s', b_Ta_append_43 C x k c 0 s = b_Ta_append_3 C x (k + (-8)) s' ∧ s'.1 1 1 = nI n ∧ fr_T s s' := by
    rw [e_Ta_append_43, if_pos rfl]
    exact ⟨s, rfl, hs, fr_T.rf s⟩
  unfold by_n
  split
  · exact ta_43 C x k c 1 s (by decide) hn hs
  · split
    · exact h0
    · split
      · exact h0
      · exact ta_43 C x k c 1 s (by decide) hn hs
def by_8s (n : Nat) (x : Int64) : Nat := by_n (by_n (by_n (by_n (by_n (by_n (by_n (by_n n (by_c x 56)) (by_c x 48)) (by_c x 40)) (by_c x 32)) (by_c x 24)) (by_c x 16)) (by_c x 8)) (by_c x 0)
theorem by_8s_le {n : Nat} (x : Int64) (h : n ≤ 4000) : by_8s n x ≤ 4000 := by
  unfold by_8s
  exact by_n_le _ (by_n_le _ (by_n_le _ (by_n_le _ (by_n_le _ (by_n_le _ (by_n_le _ (by_n_le _ h)))))))
theorem ta_append (d : Nat) (x : Int64) (s : c_S) {n : Nat} (hn : n ≤ 4000) (hs : s.1 1 1 = nI n) : ∃ s', c_M (d + 1) 212 [v_r 1, v_l x] s = some (s', 0) ∧ s'.1 1 1 = nI (by_8s n x) ∧ fr_T s s' := by
  rw [m_Ta_append, e_Ta_append_0]
  obtain ⟨s1, e1, h1, f1⟩ := ta_step (c_M d) x 56 s (by decide) (by_56 x) hn hs
  obtain ⟨s2, e2, h2, f2⟩ := ta_step (c_M d) x 48 s1 (by decide) (by_48 x) (by_n_le _ hn) h1
  obtain ⟨s3, e3, h3, f3⟩ := ta_step (c_M d) x 40 s2 (by decide) (by_40 x) (by_n_le _ (by_n_le _ hn)) h2
  obtain ⟨s4, e4, h4, f4⟩ := ta_step (c_M d) x 32 s3 (by decide) (by_32 x) (by_n_le _ (by_n_le _ (by_n_le _ hn))) h3
  obtain ⟨s5, e5, h5, f5⟩ := ta_step (c_M d) x 24 s4 (by decide) (by_24 x) (by_n_le _ (by_n_le _ (by_n_le _ (by_n_le _ hn)))) h4
  obtain ⟨s6, e6, h6, f6⟩ := ta_step (c_M d) x 16 s5 (by decide) (by_16 x) (by_n_le _ (by_n_le _ (by_n_le _ (by_n_le _ (by_n_le _ hn))))) h5
  obtain ⟨s7, e7, h7, f7⟩ := ta_step (c_M d) x 8 s6 (by decide) (by_8 x) (by_n_le _ (by_n_le _ (by_n_le _ (by_n_le _ (by_n_le _ (by_n_le _ hn)))))) h6
  obtain ⟨s8, e8, h8, f8⟩ := ta_step (c_M d) x 0 s7 (by decide) (by_0 x) (by_n_le _ (by_n_le _ (by_n_le _ (by_n_le _ (by_n_le _ (by_n_le _ (by_n_le _ hn))))))) h7
  refine ⟨s8, ?_, h8, f1.tr (f2.tr (f3.tr (f4.tr (f5.tr (f6.tr (f7.tr f8))))))⟩
  rw [e1, show (56 : Int32) + (-8) = 48 from by decide, e2, show (48 : Int32) + (-8) = 40 from by decide, e3, show (40 : Int32) + (-8) = 32 from by decide, e4, show (32 : Int32) + (-8) = 24 from by decide, e5, show (24 : Int32) + (-8) = 16 from by decide, e6, show (16 : Int32) + (-8) = 8 from by decide, e7, show (8 : Int32) + (-8) = 0 from by decide, e8, e_Ta_append_3, if_pos (by decide)]
/-- what a byte on the reference's tape leaves as it was -/
def fr_R (s s' : c_S) : Prop := (∀ a, a ≠ 34 → a ≠ 35 → s'.1 a = s.1 a) ∧ (∀ i, i ≠ 2 → s'.1 34 i = s.1 34 i) ∧ s'.2 = s.2
theorem fr_R.rf (s : c_S) : fr_R s s := ⟨fun _ _ _ => rfl, fun _ _ => rfl, rfl⟩
theorem fr_R.tr {s t u : c_S} (h : fr_R s t) (k : fr_R t u) : fr_R s u := ⟨fun a h1 h2 => (k.1 a h1 h2).trans (h.1 a h1 h2), fun i hi => (k.2.1 i hi).trans (h.2.1 i hi), k.2.2.trans h.2.2⟩
theorem rl_38 (C : c_C) (x : Int64) (k c : Int32) (s : c_S) {n : Nat} (hn : n ≤ 4000) (hs : s.1 34 2 = nI n) : ∃ s', b_Rm_lay_38 C x k c s = b_Rm_lay_3 C x (k + (-8)) s' ∧ s'.1 34 2 = nI (by_1 n) ∧ fr_R s s' := by
  rw [e_Rm_lay_38, hs]
  unfold by_1
  by_cases h : n < 4000
  · rw [if_pos (show nI n < (4000 : Int32) from nI_lt (b := 4000) h (by decide)), c_rg_nI h (by decide), if_pos h]
    refine ⟨_, rfl, ?_, ?_, ?_, rfl⟩
    · rw [c_put_same]; exact nI_1 n
    · intro a h1 h2; rw [c_put_ne h1, c_put_ne h2]
    · intro i hi; rw [c_put_get, if_neg hi, c_put_off (by decide)]
  · rw [if_neg (show ¬ nI n < (4000 : Int32) from nI_nlt (b := 4000) (by omega) (by omega)), if_neg h]
    exact ⟨s, rfl, hs, fr_R.rf s⟩
theorem rl_step (C : c_C) (x : Int64) (k : Int32) (s : c_S) {n : Nat} (hk : ¬ k < 0) (hn : n ≤ 4000) (hs : s.1 34 2 = nI n) : ∃ s', b_Rm_lay_3 C x k s = b_Rm_lay_3 C x (k + (-8)) s' ∧ s'.1 34 2 = nI (by_n n (by_c x k)) ∧ fr_R s s' := by
  rw [e_Rm_lay_3, if_neg hk, show (x >>> ((k : Int32).toInt64 &&& 63)).toInt32 &&& 255 = by_c x k from rfl]
  generalize by_c x k = c
  have h0 : ∃ s', b_Rm_lay_3 C x (k + (-8)) s = b_Rm_lay_3 C x (k + (-8)) s' ∧ s'.1 34 2 = nI n ∧ fr_R s s' := ⟨s, rfl, hs, fr_R.rf s⟩
  unfold by_n
  split
  · exact rl_38 C x k c s hn hs
  · split
    · exact h0
    · split
      · exact h0
      · exact rl_38 C x k c s hn hs
theorem rl_lay (d : Nat) (x : Int64) (s : c_S) {n : Nat} (hn : n ≤ 4000) (hs : s.1 34 2 = nI n) : ∃ s', c_M (d + 1) 19 [v_r 34, v_l x] s = some (s', 0) ∧ s'.1 34 2 = nI (by_8s n x) ∧ fr_R s s' := by
  rw [m_Rm_lay, e_Rm_lay_0]
  obtain ⟨s1, e1, h1, f1⟩ := rl_step (c_M d) x 56 s (by decide) hn hs
  obtain ⟨s2, e2, h2, f2⟩ := rl_step (c_M d) x 48 s1 (by decide) (by_n_le _ hn) h1
  obtain ⟨s3, e3, h3, f3⟩ := rl_step (c_M d) x 40 s2 (by decide) (by_n_le _ (by_n_le _ hn)) h2
  obtain ⟨s4, e4, h4, f4⟩ := rl_step (c_M d) x 32 s3 (by decide) (by_n_le _ (by_n_le _ (by_n_le _ hn))) h3
  obtain ⟨s5, e5, h5, f5⟩ := rl_step (c_M d) x 24 s4 (by decide) (by_n_le _ (by_n_le _ (by_n_le _ (by_n_le _ hn)))) h4
  obtain ⟨s6, e6, h6, f6⟩ := rl_step (c_M d) x 16 s5 (by decide) (by_n_le _ (by_n_le _ (by_n_le _ (by_n_le _ (by_n_le _ hn))))) h5
  obtain ⟨s7, e7, h7, f7⟩ := rl_step (c_M d) x 8 s6 (by decide) (by_n_le _ (by_n_le _ (by_n_le _ (by_n_le _ (by_n_le _ (by_n_le _ hn)))))) h6
  obtain ⟨s8, e8, h8, f8⟩ := rl_step (c_M d) x 0 s7 (by decide) (by_n_le _ (by_n_le _ (by_n_le _ (by_n_le _ (by_n_le _ (by_n_le _ (by_n_le _ hn))))))) h7
  refine ⟨s8, ?_, h8, f1.tr (f2.tr (f3.tr (f4.tr (f5.tr (f6.tr (f7.tr f8))))))⟩
  rw [e1, show (56 : Int32) + (-8) = 48 from by decide, e2, show (48 : Int32) + (-8) = 40 from by decide, e3, show (40 : Int32) + (-8) = 32 from by decide, e4, show (32 : Int32) + (-8) = 24 from by decide, e5, show (24 : Int32) + (-8) = 16 from by decide, e6, show (16 : Int32) + (-8) = 8 from by decide, e7, show (8 : Int32) + (-8) = 0 from by decide, e8, e_Rm_lay_3, if_pos (by decide)]
theorem ta_feed (d : Nat) (x y z : Int64) (s : c_S) {n : Nat} (hn : n ≤ 4000) (hs : s.1 1 1 = nI n) : ∃ s', c_M (d + 2) 0 [v_r 0, v_l x, v_l y, v_l z] s = some (s', nI (by_8s (by_8s (by_8s n x) y) z)) ∧ s'.1 1 1 = nI (by_8s (by_8s (by_8s n x) y) z) ∧ fr_T s s' := by
  obtain ⟨s1, e1, h1, f1⟩ := ta_append d x s hn hs
  obtain ⟨s2, e2, h2, f2⟩ := ta_append d y s1 (by_8s_le x hn) h1
  obtain ⟨s3, e3, h3, f3⟩ := ta_append d z s2 (by_8s_le y (by_8s_le x hn)) h2
  refine ⟨s3, ?_, h3, f1.tr (f2.tr f3)⟩
  rw [m_Fb_feed, e_Fb_feed_0, e1, c_bd_some, e2, c_bd_some, e3, c_bd_some, m_Ta_length, e_Ta_length_0, c_bd_some, h3]
theorem rl_feed (d : Nat) (x y z : Int64) (s : c_S) {n : Nat} (hn : n ≤ 4000) (hs : s.1 34 2 = nI n) : ∃ s', c_M (d + 2) 18 [v_r 34, v_l x, v_l y, v_l z] s = some (s', nI (by_8s (by_8s (by_8s n x) y) z)) ∧ s'.1 34 2 = nI (by_8s (by_8s (by_8s n x) y) z) ∧ fr_R (c_put s 34 0 0) s' := by
  obtain ⟨s1, e1, h1, f1⟩ := rl_lay d x (c_put s 34 0 0) hn (by rw [c_put_get, if_neg (by decide)]; exact hs)
  obtain ⟨s2, e2, h2, f2⟩ := rl_lay d y s1 (by_8s_le x hn) h1
  obtain ⟨s3, e3, h3, f3⟩ := rl_lay d z s2 (by_8s_le y (by_8s_le x hn)) h2
  refine ⟨s3, ?_, h3, f1.tr (f2.tr f3)⟩
  rw [m_Rm_feed, e_Rm_feed_0, e1, c_bd_some, e2, c_bd_some, e3, c_bd_some, h3]
