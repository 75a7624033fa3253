/-! the checker: it goes down the trees alone, and leaves trees -/
def t_g (f : Nat → Int32) (n : Nat) : Int32 := if n = 0 then 0 else f n
theorem t_g0 {f : Nat → Int32} : t_g f 0 = 0 := rfl
theorem t_g_ne {f : Nat → Int32} {n : Nat} (h : n ≠ 0) : t_g f n = f n := if_neg h
theorem g_kind (d : Nat) (hd : 1 ≤ d) (n : Nat) (hn : n < 12800) (s : c_S) : c_M d 172 [v_r 3, v_i (nI n)] s = some (s, t_g (s.1 4) n) := by
  obtain ⟨d, rfl⟩ : ∃ e, d = e + 1 := ⟨d - 1, by omega⟩
  rw [m_No_kind, e_No_kind_0]
  by_cases h0 : n = 0
  · subst h0; rw [if_neg (show ¬ (0 : Int32) < nI 0 by decide)]; rfl
  · rw [if_pos (show (0 : Int32) < nI n from nI_lt (a := 0) (by omega) (by omega)), if_pos (show nI n < (12800 : Int32) from nI_lt (b := 12800) hn (by decide)), c_rg_nI hn (by decide), nI_clamp (show n < 2 ^ 31 by omega), t_g_ne h0]
theorem g_left (d : Nat) (hd : 1 ≤ d) (n : Nat) (hn : n < 12800) (s : c_S) : c_M d 173 [v_r 3, v_i (nI n)] s = some (s, t_g (s.1 5) n) := by
  obtain ⟨d, rfl⟩ : ∃ e, d = e + 1 := ⟨d - 1, by omega⟩
  rw [m_No_left, e_No_left_0]
  by_cases h0 : n = 0
  · subst h0; rw [if_neg (show ¬ (0 : Int32) < nI 0 by decide)]; rfl
  · rw [if_pos (show (0 : Int32) < nI n from nI_lt (a := 0) (by omega) (by omega)), if_pos (show nI n < (12800 : Int32) from nI_lt (b := 12800) hn (by decide)), c_rg_nI hn (by decide), nI_clamp (show n < 2 ^ 31 by omega), t_g_ne h0]
theorem g_right (d : Nat) (hd : 1 ≤ d) (n : Nat) (hn : n < 12800) (s : c_S) : c_M d 174 [v_r 3, v_i (nI n)] s = some (s, t_g (s.1 6) n) := by
  obtain ⟨d, rfl⟩ : ∃ e, d = e + 1 := ⟨d - 1, by omega⟩
  rw [m_No_right, e_No_right_0]
  by_cases h0 : n = 0
  · subst h0; rw [if_neg (show ¬ (0 : Int32) < nI 0 by decide)]; rfl
  · rw [if_pos (show (0 : Int32) < nI n from nI_lt (a := 0) (by omega) (by omega)), if_pos (show nI n < (12800 : Int32) from nI_lt (b := 12800) hn (by decide)), c_rg_nI hn (by decide), nI_clamp (show n < 2 ^ 31 by omega), t_g_ne h0]
theorem g_sibling (d : Nat) (hd : 1 ≤ d) (n : Nat) (hn : n < 12800) (s : c_S) : c_M d 175 [v_r 3, v_i (nI n)] s = some (s, t_g (s.1 7) n) := by
  obtain ⟨d, rfl⟩ : ∃ e, d = e + 1 := ⟨d - 1, by omega⟩
  rw [m_No_sibling, e_No_sibling_0]
  by_cases h0 : n = 0
  · subst h0; rw [if_neg (show ¬ (0 : Int32) < nI 0 by decide)]; rfl
  · rw [if_pos (show (0 : Int32) < nI n from nI_lt (a := 0) (by omega) (by omega)), if_pos (show nI n < (12800 : Int32) from nI_lt (b := 12800) hn (by decide)), c_rg_nI hn (by decide), nI_clamp (show n < 2 ^ 31 by omega), t_g_ne h0]
theorem t_r.bin {s : c_S} {k lo n : Nat} (h : t_r s k lo n) (hk : t_g (s.1 4) n = 2 ∨ t_g (s.1 4) n = 3) : ∃ j a b, j + 1 = k ∧ n ≠ 0 ∧ s.1 5 n = nI a ∧ s.1 6 n = nI b ∧ a < n ∧ b < n ∧ t_r s j lo a ∧ t_r s j lo b := by
  have h0 : n ≠ 0 := fun e => by subst e; rw [t_g0] at hk; rcases hk with hk | hk <;> exact absurd hk (by decide)
  rw [t_g_ne h0] at hk
  cases k with
  | zero => exact absurd h h0
  | succ j =>
    obtain ⟨a, b, q1, q2, q3, q4, q5, q6⟩ := (h.resolve_left h0).2.2.1 hk
    exact ⟨j, a, b, rfl, h0, q1, q2, q3, q4, q5, q6⟩
theorem t_r.app {s : c_S} {k lo n : Nat} (h : t_r s k lo n) (hk : t_g (s.1 4) n = 7) : ∃ j a ps, j + 1 = k ∧ n ≠ 0 ∧ s.1 5 n = nI a ∧ a < n ∧ t_r s j lo a ∧ t_path s (s.1 6 n) ps ∧ ∀ p ∈ ps, p < n ∧ t_r s j lo p := by
  have h0 : n ≠ 0 := fun e => by subst e; rw [t_g0] at hk; exact absurd hk (by decide)
  rw [t_g_ne h0] at hk
  cases k with
  | zero => exact absurd h h0
  | succ j =>
    obtain ⟨a, ps, q1, q2, q3, q4, q5⟩ := (h.resolve_left h0).2.2.2.1 hk
    exact ⟨j, a, ps, rfl, h0, q1, q2, q3, q4, q5⟩
theorem t_r.con {s : c_S} {k lo n : Nat} (h : t_r s k lo n) (hk : t_g (s.1 4) n = 5) : n ≠ 0 ∧ s.1 6 n = 0 := by
  have h0 : n ≠ 0 := fun e => by subst e; rw [t_g0] at hk; exact absurd hk (by decide)
  rw [t_g_ne h0] at hk
  cases k with
  | zero => exact absurd h h0
  | succ j => exact ⟨h0, (h.resolve_left h0).2.2.2.2 hk⟩
/-- what the checker leaves: a node may have become a family with objects -/
def q_C (s σ : c_S) : Prop := k_F [4, 5, 18, 19, 20, 21, 22, 23, 30, 31, 32] [(1, 1), (27, 5), (27, 10), (27, 11)] s σ ∧ ∀ m, (σ.1 4 m = s.1 4 m ∧ σ.1 5 m = s.1 5 m) ∨ σ.1 4 m = 8
theorem q_C.rf {s : c_S} : q_C s s := ⟨k_F.rf, fun _ => Or.inl ⟨rfl, rfl⟩⟩
theorem q_C.tr {s t u : c_S} (h : q_C s t) (k : q_C t u) : q_C s u := ⟨k_F.tr h.1 k.1, fun m => by
  rcases k.2 m with ⟨a, b⟩ | a
  · rcases h.2 m with ⟨c, d⟩ | c
    · exact Or.inl ⟨a.trans c, b.trans d⟩
    · exact Or.inr (a.trans c)
  · exact Or.inr a⟩
theorem q_C.of {S : List Nat} {s t : c_S} (h : k_F S [(1, 1), (27, 5), (27, 10), (27, 11)] s t) (hS : (S.all (c_has [18, 19, 20, 21, 22, 23, 30, 31, 32]) && [(1, 1), (27, 5), (27, 10), (27, 11)].all (k_hp [(1, 1), (27, 5), (27, 10), (27, 11)])) = true) : q_C s t := by
  have h2 := k_F.mono h hS
  refine ⟨k_F.mono h2 rfl, fun m => Or.inl ?_⟩
  rw [h2.1 4 rfl, h2.1 5 rfl]; exact ⟨rfl, rfl⟩
theorem t_path_nc {s σ : c_S} (h : q_C s σ) : ∀ {ps : List Nat} {x : Int32}, t_path s x ps → t_path σ x ps := fun hp => t_path_fr (fun p _ => by rw [h.1.1 7 rfl]) hp
theorem t_r_nc {s σ : c_S} (h : q_C s σ) : ∀ (k lo n : Nat), t_r s k lo n → t_r σ k lo n
  | 0, _, _, g => g
  | k + 1, lo, n, g => by
    rcases g with g | ⟨hlo, hn, ha, hb, hc⟩
    · exact Or.inl g
    · have e6 : σ.1 6 = s.1 6 := h.1.1 6 rfl
      refine Or.inr ⟨hlo, hn, fun hk => ?_, fun hk => ?_, fun hk => ?_⟩
      · rcases h.2 n with ⟨e4, e5⟩ | e8
        · rw [e4] at hk
          obtain ⟨a, b, q1, q2, q3, q4, q5, q6⟩ := ha hk
          exact ⟨a, b, e5.trans q1, by rw [e6]; exact q2, q3, q4, t_r_nc h k lo a q5, t_r_nc h k lo b q6⟩
        · rw [e8] at hk; exact absurd hk (by decide)
      · rcases h.2 n with ⟨e4, e5⟩ | e8
        · rw [e4] at hk
          obtain ⟨a, ps, q1, q2, q3, q4, q5⟩ := hb hk
          exact ⟨a, ps, e5.trans q1, q2, t_r_nc h k lo a q3, by rw [e6]; exact t_path_nc h q4, fun p hp => ⟨(q5 p hp).1, t_r_nc h k lo p (q5 p hp).2⟩⟩
        · rw [e8] at hk; exact absurd hk (by decide)
      · rcases h.2 n with ⟨e4, -⟩ | e8
        · rw [e4] at hk; rw [e6]; exact hc hk
        · rw [e8] at hk; exact absurd hk (by decide)
theorem q2_isFamilyName (d : Nat) (hd : 2 ≤ d) (n : Nat) (hn : n < 12800) (s : c_S) : k_ok (c_M d 124 [v_r 32, v_i (nI n)] s) (fun σ r => σ = s ∧ (¬ r = 0 → t_g (s.1 4) n = 5)) := by
  obtain ⟨d, rfl⟩ : ∃ e, d = e + 1 := ⟨d - 1, by omega⟩
  rw [m_Ck_isFamilyName, e_Ck_isFamilyName_0, g_kind d (by omega) n hn, c_bd_some]
  refine k_if (fun h5 => ?_) (fun _ => k_some ⟨rfl, fun h => absurd rfl h⟩)
  refine k_bd (q_No_left d (by omega) _ _) (fun s_1 x_1 g_1 => ?_)
  obtain ⟨rfl, -⟩ := g_1
  refine k_bd (q_Co_sort d (by omega) _ _) (fun s_2 x_2 g_2 => ?_)
  obtain ⟨rfl, -⟩ := g_2
  exact k_if (fun _ => k_some ⟨rfl, fun _ => h5⟩) (fun _ => k_some ⟨rfl, fun _ => h5⟩)
def HO (k d : Nat) : Prop := ∀ (lo n : Nat) (sc : Int32) (s : c_S), t_r s k lo n → n < 12800 → k_ok (c_M d 127 [v_r 32, v_i (nI n), v_i sc] s) (fun σ _ => q_C s σ)
def HC (k d : Nat) : Prop := ∀ (lo n : Nat) (sc b : Int32) (s : c_S), t_r s k lo n → n < 12800 → k_ok (c_M d 121 [v_r 32, v_i (nI n), v_i sc, v_i b] s) (fun σ _ => q_C s σ)
def HF (k d : Nat) : Prop := ∀ (lo n : Nat) (sc : Int32) (s : c_S), t_r s k lo n → n < 12800 → k_ok (c_M d 123 [v_r 32, v_i (nI n), v_i sc] s) (fun σ _ => q_C s σ)
def HT (k d : Nat) : Prop := ∀ (lo n : Nat) (a b c : Int32) (s : c_S), t_r s k lo n → n < 12800 → k_ok (c_M d 126 [v_r 32, v_i (nI n), v_i a, v_i b, v_i c] s) (fun σ _ => q_C s σ)
theorem c_post {o : c_R} {s s1 : c_S} (h : q_C s s1) (g : k_ok o (fun σ _ => q_C s1 σ)) : k_ok o (fun σ _ => q_C s σ) := k_mono g (fun _ _ k => h.tr k)
theorem ck_fit (k d : Nat) (hd : 110 ≤ d) (ho : HO k d) : HT k (d + 1) := fun lo n a b c s ht hn => by
  rw [m_Ck_fitting, e_Ck_fitting_0]
  refine k_bd (ho lo n a s ht hn) (fun s_1 x_1 g_1 => ?_)
  refine k_if (fun _ => ?_) (fun _ => k_some g_1)
  refine k_bd (q_Ce_mark d (by omega) _) (fun s_2 x_2 g_2 => ?_)
  obtain ⟨rfl, -⟩ := g_2
  refine k_bd (q_Ju_families 103 d _ _ _ _ _ _ (by decide) (by omega)) (fun s_3 x_3 g_3 => ?_)
  have c3 := g_1.tr (q_C.of g_3.1 rfl)
  refine k_bd (q_Ce_release d (by omega) _ _) (fun s_4 x_4 g_4 => ?_)
  have c4 := c3.tr (q_C.of g_4.1 rfl)
  rw [e_Ck_fitting_47]
  refine k_bd (q_Me_trouble d (by omega) _) (fun s_5 x_5 g_5 => ?_)
  obtain ⟨rfl, -⟩ := g_5
  refine k_if (fun _ => k_if (fun _ => ?_) (fun _ => k_some c4)) (fun _ => ?_)
  · refine k_bd (q_No_place d (by omega) _ _) (fun s_6 x_6 g_6 => ?_)
    obtain ⟨rfl, -⟩ := g_6
    refine k_bd (q_Ck_wrong d (by omega) _ _ _) (fun s_7 x_7 g_7 => k_some (c4.tr (q_C.of g_7.1 rfl)))
  · refine k_bd (q_Me_trouble d (by omega) _) (fun s_6 x_6 g_6 => ?_)
    obtain ⟨rfl, -⟩ := g_6
    refine k_bd (q_No_place d (by omega) _ _) (fun s_7 x_7 g_7 => ?_)
    obtain ⟨rfl, -⟩ := g_7
    refine k_bd (q_Ck_wrong d (by omega) _ _ _) (fun s_8 x_8 g_8 => k_some (c4.tr (q_C.of g_8.1 rfl)))
/-- the objects behind a family's NAME -/
theorem ck_oof_45 (k d lo : Nat) (hd : 10 ≤ d) (hT : HT k d) : ∀ (m : Nat) (i2 i3 i4 i5 i6 i7 i8 : Int32) (ps : List Nat) (s : c_S), t_path s i6 ps → (∀ p ∈ ps, t_r s k lo p) → k_m i8 < m → k_ok (b_Ck_objectsOfFamily_45 (c_M d) i2 i3 i4 i5 i6 i7 i8 s) (fun σ _ => q_C s σ)
  | 0, _, _, _, _, _, _, _, _, _, _, _, hm => absurd hm (Nat.not_lt_zero _)
  | m + 1, i2, i3, i4, i5, i6, i7, i8, ps, s, hp, ha, hm => by
    have fin : k_ok (b_Ck_objectsOfFamily_179 (c_M d) i2 i4 s) (fun σ _ => q_C s σ) := by
      rw [e_Ck_objectsOfFamily_179]
      refine k_bd (q_No_kind d (by omega) _ _) (fun s_1 x_1 g_1 => ?_)
      obtain ⟨rfl, -⟩ := g_1
      refine k_if (fun _ => ?_) (fun _ => k_some q_C.rf)
      exact k_bd (q_Ck_wrong d (by omega) _ _ _) (fun s_2 x_2 g_2 => k_some (q_C.of g_2.1 rfl))
    rw [e_Ck_objectsOfFamily_45]
    refine k_if (fun h8 => k_if (fun _ => fin) (fun h6 => ?_)) (fun _ => fin)
    cases ps with
    | nil => exact absurd hp h6
    | cons p ps =>
      obtain ⟨rfl, p1, p2, p3⟩ := hp
      refine k_bd (q_No_place d (by omega) _ _) (fun s_1 x_1 g_1 => ?_)
      obtain ⟨rfl, -⟩ := g_1
      refine k_bd (q_Ck_step d (by omega) _ _) (fun s_2 x_2 g_2 => ?_)
      have c2 : q_C s_1 s_2 := q_C.of g_2.1 rfl
      refine k_if (fun _ => k_some c2) (fun _ => ?_)
      refine k_bd (q_No_kind d (by omega) _ _) (fun s_3 x_3 g_3 => ?_)
      obtain ⟨rfl, -⟩ := g_3
      refine k_if (fun _ => ?_) (fun _ => ?_)
      · refine k_bd (q_No_left d (by omega) _ _) (fun s_4 x_4 g_4 => ?_)
        obtain ⟨rfl, -⟩ := g_4
        refine k_bd (hT lo p _ _ _ _ (t_r_nc c2 k lo p (ha p List.mem_cons_self)) p2) (fun s_5 x_5 g_5 => ?_)
        have c5 := c2.tr g_5
        rw [e_Ck_objectsOfFamily_121]
        refine k_bd (q_Ce_next d (by omega) _ _) (fun s_6 x_6 g_6 => ?_)
        obtain ⟨rfl, -⟩ := g_6
        refine k_bd (q_Ce_bind d (by omega) _ _ _ _) (fun s_7 x_7 g_7 => ?_)
        have c7 := c5.tr (q_C.of g_7.1 rfl)
        refine k_bd (q_No_right d (by omega) _ _) (fun s_8 x_8 g_8 => ?_)
        obtain ⟨rfl, -⟩ := g_8
        rw [e_Ck_objectsOfFamily_158, g_sibling d (by omega) p p2, c_bd_some, t_g_ne (by omega)]
        refine c_post c7 (ck_oof_45 k d lo hd hT m _ _ _ _ _ _ _ ps _ ?_ (fun q hq => t_r_nc c7 k lo q (ha q (List.mem_cons_of_mem _ hq))) (k_up h8 hm))
        rw [c7.1.1 7 rfl]; exact t_path_nc c7 p3
      · refine k_bd (q_No_place d (by omega) _ _) (fun s_4 x_4 g_4 => ?_)
        obtain ⟨rfl, -⟩ := g_4
        exact k_bd (q_Ck_wrong d (by omega) _ _ _) (fun s_5 x_5 g_5 => k_some (c2.tr (q_C.of g_5.1 rfl)))
theorem ck_oof (k d lo : Nat) (hd : 10 ≤ d) (hT : HT k d) (n : Nat) (h0 : n ≠ 0) (hn : n < 12800) (i2 i3 : Int32) (ps : List Nat) (s : c_S) (hp : t_path s (s.1 6 n) ps) (ha : ∀ p ∈ ps, t_r s k lo p) : k_ok (c_M (d + 1) 125 [v_r 32, v_i (nI n), v_i i2, v_i i3] s) (fun σ _ => q_C s σ) := by
  rw [m_Ck_objectsOfFamily, e_Ck_objectsOfFamily_0]
  refine k_bd (q_No_left d (by omega) _ _) (fun s_1 x_1 g_1 => ?_)
  obtain ⟨rfl, -⟩ := g_1
  refine k_bd (q_Co_typeRoot d (by omega) _ _) (fun s_2 x_2 g_2 => ?_)
  obtain ⟨rfl, -⟩ := g_2
  rw [g_right d (by omega) n hn, c_bd_some, e_Ck_objectsOfFamily_30, t_g_ne h0]
  refine k_bd (q_Ma_push d (by omega) _ _ _ _) (fun s_3 x_3 g_3 => ?_)
  have c3 : q_C s_2 s_3 := q_C.of g_3.1 rfl
  exact c_post c3 (ck_oof_45 k d lo hd hT _ _ _ _ _ _ _ _ ps _ (t_path_nc c3 hp) (fun q hq => t_r_nc c3 k lo q (ha q hq)) (Nat.lt_succ_self _))
theorem ck_become (d : Nat) (hd : 1 ≤ d) (n : Nat) (h0 : n ≠ 0) (hn : n < 12800) (x : Int32) (s : c_S) : k_ok (c_M d 183 [v_r 3, v_i (nI n), v_i x] s) (fun σ _ => q_C s σ) := by
  obtain ⟨d, rfl⟩ : ∃ e, d = e + 1 := ⟨d - 1, by omega⟩
  rw [m_No_becomeFamily, e_No_becomeFamily_0, if_pos (show (0 : Int32) < nI n from nI_lt (a := 0) (by omega) (by omega)), if_pos (show nI n < (12800 : Int32) from nI_lt (b := 12800) hn (by decide)), c_rg_nI hn (by decide), c_rg_nI hn (by decide), nI_clamp (show n < 2 ^ 31 by omega)]
  refine k_some ⟨k_F.put (k_F.put k_F.rf rfl) rfl, fun m => ?_⟩
  by_cases hm : m = n
  · subst hm; exact Or.inr (by rw [c_put_off (by decide), c_put_same])
  · exact Or.inl ⟨by rw [c_put_off (by decide), c_put_get, if_neg hm], by rw [c_put_get, if_neg hm, c_put_off (by decide)]⟩
theorem ck_fam (k d : Nat) (hd : 12 ≤ d) (hT : ∀ j, j + 1 = k → HT j d) (hT0 : HT 0 d) : HF k (d + 2) := fun lo n sc s ht hn => by
  have key : ∀ (nm : Nat) (s1 : c_S), q_C s s1 → nm < 12800 → ((nm = n ∧ ¬ t_g (s.1 4) n = 7) ∨ t_g (s.1 4) n = 7) → k_ok (b_Ck_family_79 (c_M (d + 1)) (nI n) sc (nI nm) s1) (fun σ _ => q_C s σ) := by
    intro nm s1 c1 hnm hcase
    rw [e_Ck_family_79]
    refine k_bd (q_No_token (d + 1) (by omega) _ _) (fun s_1 x_1 g_1 => ?_)
    obtain ⟨rfl, -⟩ := g_1
    refine k_bd (q_Ck_step (d + 1) (by omega) _ _) (fun s_2 x_2 g_2 => ?_)
    have c2 := c1.tr (q_C.of g_2.1 rfl)
    refine k_if (fun _ => k_some c2) (fun _ => ?_)
    refine k_bd (q_No_kind (d + 1) (by omega) _ _) (fun s_3 x_3 g_3 => ?_)
    obtain ⟨rfl, -⟩ := g_3
    refine k_if (fun _ => ?_) (fun _ => ?_)
    · refine k_bd (q_No_token (d + 1) (by omega) _ _) (fun s_4 x_4 g_4 => ?_)
      obtain ⟨rfl, -⟩ := g_4
      exact k_bd (q_Ck_wrong (d + 1) (by omega) _ _ _) (fun s_5 x_5 g_5 => k_some (c2.tr (q_C.of g_5.1 rfl)))
    · refine k_bd (q2_isFamilyName (d + 1) (by omega) nm hnm _) (fun s_4 x_4 g_4 => ?_)
      obtain ⟨rfl, h5⟩ := g_4
      refine k_if (fun _ => ?_) (fun hx => ?_)
      · refine k_bd (q_No_first (d + 1) (by omega) _ _) (fun s_5 x_5 g_5 => ?_)
        obtain ⟨rfl, -⟩ := g_5
        exact k_bd (q_Ck_wrong (d + 1) (by omega) _ _ _) (fun s_6 x_6 g_6 => k_some (c2.tr (q_C.of g_6.1 rfl)))
      · have hk5 := h5 hx
        refine k_bd (q_No_left (d + 1) (by omega) _ _) (fun s_5 x_5 g_5 => ?_)
        obtain ⟨rfl, -⟩ := g_5
        have hn0 : n ≠ 0 := by
          rcases hcase with ⟨rfl, -⟩ | h7
          · intro e; subst e; rw [t_g0] at hk5; exact absurd hk5 (by decide)
          · intro e; subst e; rw [t_g0] at h7; exact absurd h7 (by decide)
        refine k_bd (ck_become (d + 1) (by omega) n hn0 hn _ _) (fun s_6 x_6 g_6 => ?_)
        have c6 := c2.tr g_6
        rw [e_Ck_family_170]
        refine k_bd (q_No_token (d + 1) (by omega) _ _) (fun s_7 x_7 g_7 => ?_)
        obtain ⟨rfl, -⟩ := g_7
        have e6 : s_7.1 6 = s.1 6 := c6.1.1 6 rfl
        rcases hcase with ⟨rfl, -⟩ | h7
        · have hr : s_7.1 6 nm = 0 := by
            have e6b : s_5.1 6 = s.1 6 := c2.1.1 6 rfl
            have := (t_r_nc c2 k lo nm ht).con hk5
            rw [e6, ← e6b]; exact this.2
          exact k_bd (ck_oof 0 d lo (by omega) hT0 nm hn0 hn _ _ [] _ hr (fun q hq => by cases hq)) (fun s_8 x_8 g_8 => k_some (c6.tr g_8))
        · obtain ⟨j, a, ps, hj, -, -, -, -, q4, q5⟩ := ht.app h7
          exact k_bd (ck_oof j d lo (by omega) (hT j hj) n hn0 hn _ _ ps _ (by rw [e6]; exact t_path_nc c6 q4) (fun q hq => t_r_nc c6 j lo q (q5 q hq).2)) (fun s_8 x_8 g_8 => k_some (c6.tr g_8))
  have key35 : ∀ (nm : Nat) (i3 : Int32), nm < 12800 → ((nm = n ∧ ¬ t_g (s.1 4) n = 7) ∨ t_g (s.1 4) n = 7) → k_ok (b_Ck_family_35 (c_M (d + 1)) (nI n) sc i3 (nI nm) s) (fun σ _ => q_C s σ) := by
    intro nm i3 hnm hcase
    rw [e_Ck_family_35]
    refine k_if (fun _ => k_if (fun _ => key nm s q_C.rf hnm hcase) (fun _ => ?_)) (fun _ => k_some q_C.rf)
    refine k_bd (q_No_inBrackets (d + 1) (by omega) _ _) (fun s_1 x_1 g_1 => ?_)
    obtain ⟨rfl, -⟩ := g_1
    refine k_if (fun _ => key nm _ q_C.rf hnm hcase) (fun _ => ?_)
    refine k_bd (q_No_place (d + 1) (by omega) _ _) (fun s_2 x_2 g_2 => ?_)
    obtain ⟨rfl, -⟩ := g_2
    exact k_bd (q_Ck_wrong (d + 1) (by omega) _ _ _) (fun s_3 x_3 g_3 => k_some (q_C.of g_3.1 rfl))
  rw [m_Ck_family, e_Ck_family_0, g_kind (d + 1) (by omega) n hn, c_bd_some]
  refine k_if (fun h7 => ?_) (fun h7 => ?_)
  · rw [e_Ck_family_18, if_neg (by decide), g_left (d + 1) (by omega) n hn, c_bd_some]
    obtain ⟨j, a, ps, hj, h0, e5, ha, -, -, -⟩ := ht.app h7
    rw [t_g_ne h0, e5]
    exact key35 a 1 (by omega) (Or.inr h7)
  · rw [e_Ck_family_18, if_pos rfl]
    exact key35 n 0 hn (Or.inl ⟨rfl, h7⟩)
theorem ck_cls_18 (k d lo : Nat) (hd : 10 ≤ d) (hC : ∀ j, j + 1 = k → HC j d) (hF : HF k d) : ∀ (m : Nat) (i3 : Int32) (n : Nat) (i5 i6 i7 : Int32) (s : c_S), t_r s k lo n → n < 12800 → k_m i7 < m → k_ok (b_Ck_classifier_18 (c_M d) i3 (nI n) i5 i6 i7 s) (fun σ _ => q_C s σ)
  | 0, _, _, _, _, _, _, _, _, hm => absurd hm (Nat.not_lt_zero _)
  | m + 1, i3, n, i5, i6, i7, s, ht, hn, hm => by
    have rel : ∀ (t0 : Int32) (s1 : c_S), c_bz t0 = true → q_C s s1 → k_ok (b_Ck_classifier_155 (c_M d) i6 t0 s1) (fun σ _ => q_C s σ) := fun t0 s1 hb c1 => by
      rw [e_Ck_classifier_155]
      exact k_bd (q_Ce_release d (by omega) _ _) (fun s_1 x_1 g_1 => k_bz hb (c1.tr (q_C.of g_1.1 rfl)))
    have e123 : ∀ t0 : Int32, c_bz t0 = true → k_ok (b_Ck_classifier_123 (c_M d) (nI n) i5 i6 t0 s) (fun σ _ => q_C s σ) := fun t0 hb => by
      rw [e_Ck_classifier_123]
      refine k_if (fun _ => ?_) (fun _ => ?_)
      · exact k_bd (hF lo n i5 s ht hn) (fun s_1 x_1 g_1 => rel t0 s_1 hb g_1)
      · refine k_bd (q_No_token d (by omega) _ _) (fun s_1 x_1 g_1 => ?_)
        obtain ⟨rfl, -⟩ := g_1
        exact k_bd (q_Ck_step d (by omega) _ _) (fun s_2 x_2 g_2 => rel t0 s_2 hb (q_C.of g_2.1 rfl))
    have fin : k_ok (b_Ck_classifier_101 (c_M d) i3 (nI n) i5 i6 s) (fun σ _ => q_C s σ) := by
      rw [e_Ck_classifier_101]
      refine k_bd (q_No_kind d (by omega) _ _) (fun s_1 x_1 g_1 => ?_)
      obtain ⟨rfl, -⟩ := g_1
      exact k_if (fun _ => k_if (fun _ => e123 0 (by decide)) (fun _ => e123 1 (by decide))) (fun _ => e123 0 (by decide))
    rw [e_Ck_classifier_18]
    refine k_if (fun h7 => ?_) (fun _ => fin)
    rw [g_kind d (by omega) n hn, c_bd_some]
    refine k_if (fun h2 => ?_) (fun _ => fin)
    obtain ⟨j, a, b, hj, h0, e5, e6, ha, hb, ta, tb⟩ := ht.bin (Or.inl h2)
    refine k_bd (q_No_token d (by omega) _ _) (fun s_1 x_1 g_1 => ?_)
    obtain ⟨rfl, -⟩ := g_1
    refine k_bd (q_Ck_step d (by omega) _ _) (fun s_2 x_2 g_2 => ?_)
    have c2 : q_C s_1 s_2 := q_C.of g_2.1 rfl
    have k2 := k_F.mono (T := [18, 32]) (Y := []) g_2.1 rfl
    refine k_if (fun _ => k_some c2) (fun _ => ?_)
    rw [g_left d (by omega) n hn, c_bd_some, t_g_ne h0, k2.1 5 rfl, e5]
    refine k_bd (hC j hj lo a _ _ _ (t_r_nc c2 j lo a ta) (by omega)) (fun s_3 x_3 g_3 => ?_)
    have c3 := c2.tr g_3
    refine k_bd (q_Ck_under d (by omega) _ _ _) (fun s_4 x_4 g_4 => ?_)
    have c4 := c3.tr (q_C.of g_4.1 rfl)
    rw [e_Ck_classifier_84, g_right d (by omega) n hn, c_bd_some, t_g_ne h0, c4.1.1 6 rfl, e6]
    exact c_post c4 (ck_cls_18 k d lo hd hC hF m _ b _ _ _ _ (t_r_nc c4 k lo b (t_r_up _ _ _ _ _ (by omega) (Nat.le_refl _) tb)) (by omega) (k_up h7 hm))
theorem ck_cls (k d : Nat) (hd : 10 ≤ d) (hC : ∀ j, j + 1 = k → HC j d) (hF : HF k d) : HC k (d + 1) := fun lo n sc b s ht hn => by
  rw [m_Ck_classifier, e_Ck_classifier_0]
  refine k_bd (q_Ce_mark d (by omega) _) (fun s_1 x_1 g_1 => ?_)
  obtain ⟨rfl, -⟩ := g_1
  exact ck_cls_18 k d lo hd hC hF _ _ n _ _ _ _ ht hn (Nat.lt_succ_self _)
theorem ck_app_75 (k d lo : Nat) (hd : 10 ≤ d) (hT : HT k d) : ∀ (m : Nat) (i2 i4 i5 i6 i7 i8 : Int32) (ps : List Nat) (s : c_S), t_path s i6 ps → (∀ p ∈ ps, t_r s k lo p) → k_m i8 < m → k_ok (b_Ck_applied_75 (c_M d) i2 i4 i5 i6 i7 i8 s) (fun σ _ => q_C s σ)
  | 0, _, _, _, _, _, _, _, _, _, _, hm => absurd hm (Nat.not_lt_zero _)
  | m + 1, i2, i4, i5, i6, i7, i8, ps, s, hp, ha, hm => by
    rw [e_Ck_applied_75]
    refine k_if (fun h8 => k_if (fun _ => k_some q_C.rf) (fun h6 => ?_)) (fun _ => k_some q_C.rf)
    cases ps with
    | nil => exact absurd hp h6
    | cons p ps =>
      obtain ⟨rfl, p1, p2, p3⟩ := hp
      refine k_bd (q_No_place d (by omega) _ _) (fun s_1 x_1 g_1 => ?_)
      obtain ⟨rfl, -⟩ := g_1
      refine k_bd (q_Ck_step d (by omega) _ _) (fun s_2 x_2 g_2 => ?_)
      have c2 : q_C s_1 s_2 := q_C.of g_2.1 rfl
      refine k_if (fun _ => k_some c2) (fun _ => ?_)
      refine k_bd (q_No_isArrow d (by omega) _ _) (fun s_3 x_3 g_3 => ?_)
      obtain ⟨rfl, -⟩ := g_3
      refine k_if (fun _ => ?_) (fun _ => ?_)
      · refine k_bd (q_No_place d (by omega) _ _) (fun s_4 x_4 g_4 => ?_)
        obtain ⟨rfl, -⟩ := g_4
        exact k_bd (q_Ck_wrong d (by omega) _ _ _) (fun s_5 x_5 g_5 => k_some (c2.tr (q_C.of g_5.1 rfl)))
      · refine k_bd (q_No_left d (by omega) _ _) (fun s_4 x_4 g_4 => ?_)
        obtain ⟨rfl, -⟩ := g_4
        refine k_bd (hT lo p _ _ _ _ (t_r_nc c2 k lo p (ha p List.mem_cons_self)) p2) (fun s_5 x_5 g_5 => ?_)
        have c5 := c2.tr g_5
        rw [e_Ck_applied_151]
        refine k_bd (q_Ce_next d (by omega) _ _) (fun s_6 x_6 g_6 => ?_)
        obtain ⟨rfl, -⟩ := g_6
        refine k_bd (q_No_right d (by omega) _ _) (fun s_7 x_7 g_7 => ?_)
        obtain ⟨rfl, -⟩ := g_7
        refine k_bd (q_Ce_bind d (by omega) _ _ _ _) (fun s_8 x_8 g_8 => ?_)
        have c8 := c5.tr (q_C.of g_8.1 rfl)
        refine k_bd (q_Ma_expose d (by omega) _ _ _) (fun s_9 x_9 g_9 => ?_)
        have c9 := c8.tr (q_C.of g_9.1 rfl)
        refine k_bd (q_Ma_shape d (by omega) _) (fun s_10 x_10 g_10 => ?_)
        obtain ⟨rfl, -⟩ := g_10
        rw [e_Ck_applied_200]
        refine k_bd (q_Ma_shapeScope d (by omega) _) (fun s_11 x_11 g_11 => ?_)
        obtain ⟨rfl, -⟩ := g_11
        rw [g_sibling d (by omega) p p2, c_bd_some, t_g_ne (by omega)]
        refine c_post c9 (ck_app_75 k d lo hd hT m _ _ _ _ _ _ ps _ ?_ (fun q hq => t_r_nc c9 k lo q (ha q (List.mem_cons_of_mem _ hq))) (k_up h8 hm))
        rw [c9.1.1 7 rfl]; exact t_path_nc c9 p3
theorem ck_app (j d : Nat) (hd : 12 ≤ d) (hO : HO j d) (hT : HT j d) (lo n : Nat) (sc : Int32) (s : c_S) (ht : t_r s (j + 1) lo n) (h7 : t_g (s.1 4) n = 7) (hn : n < 12800) : k_ok (c_M (d + 1) 129 [v_r 32, v_i (nI n), v_i sc] s) (fun σ _ => q_C s σ) := by
  obtain ⟨j', a, ps, hj, h0, e5, ha, ta, q4, q5⟩ := ht.app h7
  have hj : j' = j := by omega
  subst hj
  rw [m_Ck_applied, e_Ck_applied_0, g_left d (by omega) n hn, c_bd_some, t_g_ne h0, e5]
  refine k_bd (hO lo a sc s ta (by omega)) (fun s_1 x_1 g_1 => ?_)
  refine k_if (fun _ => ?_) (fun _ => k_some g_1)
  refine k_bd (q_Ma_expose d (by omega) _ _ _) (fun s_2 x_2 g_2 => ?_)
  have c2 := g_1.tr (q_C.of g_2.1 rfl)
  refine k_bd (q_Ma_shape d (by omega) _) (fun s_3 x_3 g_3 => ?_)
  obtain ⟨rfl, -⟩ := g_3
  rw [e_Ck_applied_41]
  refine k_bd (q_Ma_shapeScope d (by omega) _) (fun s_4 x_4 g_4 => ?_)
  obtain ⟨rfl, -⟩ := g_4
  rw [g_right d (by omega) n hn, c_bd_some, t_g_ne h0]
  refine k_bd (q_Ma_push d (by omega) _ _ _ _) (fun s_5 x_5 g_5 => ?_)
  have c5 := c2.tr (q_C.of g_5.1 rfl)
  rw [e_Ck_applied_72]
  refine c_post c5 (ck_app_75 j' d lo (by omega) hT _ _ _ _ _ _ _ ps _ ?_ (fun q hq => t_r_nc c5 j' lo q (q5 q hq).2) (Nat.lt_succ_self _))
  rw [c2.1.1 6 rfl]; exact t_path_nc c5 q4
theorem ck_obj_17 (k d lo : Nat) (hd : 14 ≤ d) (hC : ∀ j, j + 1 = k → HC j d) (hA : ∀ (n : Nat) (sc : Int32) (s : c_S), t_r s k lo n → t_g (s.1 4) n = 7 → n < 12800 → k_ok (c_M d 129 [v_r 32, v_i (nI n), v_i sc] s) (fun σ _ => q_C s σ)) : ∀ (m : Nat) (n : Nat) (i4 i5 i6 : Int32) (s : c_S), t_r s k lo n → n < 12800 → k_m i6 < m → k_ok (b_Ck_object_17 (c_M d) (nI n) i4 i5 i6 s) (fun σ _ => q_C s σ)
  | 0, _, _, _, _, _, _, _, hm => absurd hm (Nat.not_lt_zero _)
  | m + 1, n, i4, i5, i6, s, ht, hn, hm => by
    have rel : ∀ (s1 : c_S), q_C s s1 → k_ok (b_Ck_object_143 (c_M d) i5 s1) (fun σ _ => q_C s σ) := fun s1 c1 => by
      rw [e_Ck_object_143]
      exact k_bd (q_Ce_release d (by omega) _ _) (fun s_1 x_1 g_1 => k_some (c1.tr (q_C.of g_1.1 rfl)))
    have e123 : k_ok (b_Ck_object_123 (c_M d) (nI n) i5 s) (fun σ _ => q_C s σ) := by
      rw [e_Ck_object_123]
      refine k_bd (q_No_token d (by omega) _ _) (fun s_1 x_1 g_1 => ?_)
      obtain ⟨rfl, -⟩ := g_1
      refine k_bd (q_Ck_step d (by omega) _ _) (fun s_2 x_2 g_2 => ?_)
      refine k_if (fun _ => rel _ (q_C.of g_2.1 rfl)) (fun _ => ?_)
      exact k_bd (q_Ck_bareObject d (by omega) _ _) (fun s_3 x_3 g_3 => rel _ ((q_C.of g_2.1 rfl).tr (q_C.of g_3.1 rfl)))
    have fin : k_ok (b_Ck_object_93 (c_M d) (nI n) i4 i5 s) (fun σ _ => q_C s σ) := by
      rw [e_Ck_object_93]
      refine k_if (fun _ => ?_) (fun _ => e123)
      rw [g_kind d (by omega) n hn, c_bd_some]
      exact k_if (fun h7 => k_bd (hA n i4 s ht h7 hn) (fun s_1 x_1 g_1 => rel _ g_1)) (fun _ => e123)
    rw [e_Ck_object_17]
    refine k_if (fun h7 => ?_) (fun _ => fin)
    rw [g_kind d (by omega) n hn, c_bd_some]
    refine k_if (fun h2 => ?_) (fun _ => fin)
    obtain ⟨j, a, b, hj, h0, e5, e6, ha, hb, ta, tb⟩ := ht.bin (Or.inr h2)
    refine k_bd (q_No_token d (by omega) _ _) (fun s_1 x_1 g_1 => ?_)
    obtain ⟨rfl, -⟩ := g_1
    refine k_bd (q_Ck_step d (by omega) _ _) (fun s_2 x_2 g_2 => ?_)
    have c2 : q_C s_1 s_2 := q_C.of g_2.1 rfl
    have k2 := k_F.mono (T := [18, 32]) (Y := []) g_2.1 rfl
    refine k_if (fun _ => k_some c2) (fun _ => ?_)
    rw [g_left d (by omega) n hn, c_bd_some, t_g_ne h0, k2.1 5 rfl, e5]
    refine k_bd (hC j hj lo a _ _ _ (t_r_nc c2 j lo a ta) (by omega)) (fun s_3 x_3 g_3 => ?_)
    have c3 := c2.tr g_3
    refine k_bd (q_Ck_under d (by omega) _ _ _) (fun s_4 x_4 g_4 => ?_)
    have c4 := c3.tr (q_C.of g_4.1 rfl)
    rw [e_Ck_object_78, g_right d (by omega) n hn, c_bd_some, t_g_ne h0, c4.1.1 6 rfl, e6]
    exact c_post c4 (ck_obj_17 k d lo hd hC hA m b _ _ _ _ (t_r_nc c4 k lo b (t_r_up _ _ _ _ _ (by omega) (Nat.le_refl _) tb)) (by omega) (k_up h7 hm))
theorem ck_obj (k d : Nat) (hd : 14 ≤ d) (hC : ∀ j, j + 1 = k → HC j d) (hA : ∀ (lo n : Nat) (sc : Int32) (s : c_S), t_r s k lo n → t_g (s.1 4) n = 7 → n < 12800 → k_ok (c_M d 129 [v_r 32, v_i (nI n), v_i sc] s) (fun σ _ => q_C s σ)) : HO k (d + 1) := fun lo n sc s ht hn => by
  rw [m_Ck_object, e_Ck_object_0]
  refine k_bd (q_Ce_mark d (by omega) _) (fun s_1 x_1 g_1 => ?_)
  obtain ⟨rfl, -⟩ := g_1
  exact ck_obj_17 k d lo hd hC (hA lo) _ n _ _ _ _ ht hn (Nat.lt_succ_self _)
theorem ck_all : ∀ (k : Nat), (∀ d, 8 * k + 130 ≤ d → HO k d) ∧ (∀ d, 8 * k + 130 ≤ d → HC k d)
  | 0 => by
    have no7 : ∀ (lo n : Nat) (s : c_S), t_r s 0 lo n → ¬ t_g (s.1 4) n = 7 := fun lo n s ht h7 => by
      have : n = 0 := ht
      subst this; rw [t_g0] at h7; exact absurd h7 (by decide)
    have hO : ∀ d, 120 ≤ d → HO 0 d := fun d hd => by
      obtain ⟨d, rfl⟩ : ∃ e, d = e + 1 := ⟨d - 1, by omega⟩
      exact ck_obj 0 d (by omega) (fun j hj => absurd hj (by omega)) (fun lo n sc s ht h7 _ => absurd h7 (no7 lo n s ht))
    refine ⟨fun d hd => hO d (by omega), fun d hd => ?_⟩
    obtain ⟨d, rfl⟩ : ∃ e, d = e + 4 := ⟨d - 4, by omega⟩
    have hT0 : HT 0 (d + 1) := ck_fit 0 d (by omega) (hO d (by omega))
    exact ck_cls 0 (d + 3) (by omega) (fun j hj => absurd hj (by omega)) (ck_fam 0 (d + 1) (by omega) (fun j hj => absurd hj (by omega)) hT0)
  | k + 1 => by
    obtain ⟨ihO, ihC⟩ := ck_all k
    have hT0 : ∀ d, 8 * k + 131 ≤ d → HT k d := fun d hd => by
      obtain ⟨d, rfl⟩ : ∃ e, d = e + 1 := ⟨d - 1, by omega⟩
      exact ck_fit k d (by omega) (ihO d (by omega))
    have hTz : ∀ d, 8 * k + 131 ≤ d → HT 0 d := fun d hd lo n a b c s ht hn => hT0 d hd lo n a b c s (t_r_up _ _ _ _ _ (by omega) (Nat.le_refl _) ht) hn
    constructor
    · intro d hd
      obtain ⟨d, rfl⟩ : ∃ e, d = e + 2 := ⟨d - 2, by omega⟩
      refine ck_obj (k + 1) (d + 1) (by omega) (fun j hj => ?_) (fun lo n sc s ht h7 hn => ck_app k d (by omega) (ihO d (by omega)) (hT0 d (by omega)) lo n sc s ht h7 hn)
      have : j = k := by omega
      subst this
      exact ihC (d + 1) (by omega)
    · intro d hd
      obtain ⟨d, rfl⟩ : ∃ e, d = e + 4 := ⟨d - 4, by omega⟩
      refine ck_cls (k + 1) (d + 3) (by omega) (fun j hj => ?_) (ck_fam (k + 1) (d + 1) (by omega) (fun j hj => ?_) (hTz (d + 1) (by omega)))
      · have : j = k := by omega
        subst this
        exact ihC (d + 3) (by omega)
      · have : j = k := by omega
        subst this
        exact hT0 (d + 1) (by omega)
