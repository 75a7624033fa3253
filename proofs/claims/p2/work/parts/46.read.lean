theorem q2_enter (d : Nat) (hd : 1 ≤ d) (a b : Int32) (s : c_S) : k_ok (c_M d 210 [v_r 27, v_i a, v_i b] s) (fun σ r => r_q s σ ∧ σ.1 27 5 = s.1 27 5 + 1) := by
  obtain ⟨d, rfl⟩ : ∃ e, d = e + 1 := ⟨d - 1, by omega⟩
  rw [m_Re_enterScope, e_Re_enterScope_0]
  refine k_if (fun _ => k_some ⟨k_F.puf k_F.rf rfl, c_put_same⟩) (fun h0 => k_if (fun h1 => ?_) (fun _ => k_some ⟨k_F.puf k_F.rf rfl, c_put_same⟩))
  refine k_rg (k_in h0 h1 (by decide)) (k_rg (k_in h0 h1 (by decide)) (k_some ⟨k_F.puf (k_F.put (k_F.put k_F.rf rfl) rfl) rfl, c_put_same⟩))
theorem q2_leave (d : Nat) (hd : 1 ≤ d) (s : c_S) : k_ok (c_M d 211 [v_r 27] s) (fun σ r => r_q s σ ∧ σ.1 27 5 = s.1 27 5 - 1) := by
  obtain ⟨d, rfl⟩ : ∃ e, d = e + 1 := ⟨d - 1, by omega⟩
  rw [m_Re_leaveScope, e_Re_leaveScope_0]
  exact k_some ⟨k_F.puf k_F.rf rfl, c_put_same⟩
theorem r_Q.comp {K lo T T2 : Nat} {s s3 σ : c_S} {r : Int32} (hf : k_F [1, 3, 4, 5, 6, 7, 8, 9, 10, 27, 28, 29] [(1, 1), (27, 10), (27, 11)] s s3) (hsc : s3.1 27 5 = s.1 27 5) (ho : r_old lo s s3) (hT : T ≤ T2) (g : r_Q K lo T2 s3 σ r) : r_Q K lo T s σ r := by
  obtain ⟨g1, g2, T', n, e1, e2, e3, e4, e5, e6, e7, e8⟩ := g
  exact ⟨k_F.tr hf g1, g2.trans hsc, T', n, e1, by omega, e3, e4, e5, e6, e7, ho.tr e8⟩
theorem r_Q.none {K K' lo T : Nat} {s σ : c_S} {r : Int32} (g : r_Q K lo T s σ r) (h1 : 1 ≤ T) : r_Q K' lo T s σ 0 := by
  obtain ⟨g1, g2, T', n, e1, e2, e3, e4, e5, e6, e7, e8⟩ := g
  exact ⟨g1, g2, T', 0, e1, e2, e3, rfl, by omega, t_r_0, fun h => absurd rfl h, e8⟩
/-- a { } or an [ ] over two trees -/
theorem r_bind {K lo T Ta Tb a b : Nat} {kd : Int32} {s sa sb σ : c_S} {x : Int32} (hk : kd = 2 ∨ kd = 3) (hf : k_F [1, 3, 4, 5, 6, 7, 8, 9, 10, 27, 28, 29] [(1, 1), (27, 10), (27, 11)] s sb) (hsc : sb.1 27 5 = s.1 27 5) (ho : r_old lo s sb) (h1 : 1 ≤ T) (hTa : T ≤ Ta) (hlo : lo ≤ T) (ha : t_r sa K lo a) (ha2 : a < Ta) (hab : r_old Ta sa sb) (hb : t_r sb K lo b) (hb2 : b < Tb) (hTb : sb.1 3 7 = nI Tb) (hT2 : Ta ≤ Tb) (hT3 : Tb ≤ 12800) (g : r_N Tb kd (nI a) (nI b) sb σ x) : r_Q (K + 1) lo T s σ x := by
  rcases g with ⟨h, rfl⟩ | ⟨hlt, rfl, hf2, ht, ho2, e4, e5, e6, e7⟩
  · exact ⟨k_F.tr hf (k_F.mono h.1 rfl), h.2.trans hsc, Tb, 0, by rw [h.1.top]; exact hTb, by omega, hT3, rfl, by omega, t_r_0, fun h => absurd rfl h, ho.tr h.1.old⟩
  · refine ⟨k_F.tr hf (k_F.mono hf2 rfl), (hf2.2.1 (27, 5) (by decide)).trans hsc, Tb + 1, Tb, ht, by omega, by omega, rfl, by omega, Or.inr ⟨by omega, hlt, fun _ => ⟨a, b, e5, e6, by omega, hb2, ?_, ?_⟩, fun h => ?_, fun h => ?_⟩, fun _ => e7, ho.tr (ho2.le (by omega))⟩
    · exact t_r_old (t_r_old ha ha2 hab) (by omega) (ho2)
    · exact t_r_old hb hb2 ho2
    · rw [e4] at h; rcases hk with rfl | rfl <;> exact absurd h (by decide)
    · rw [e4] at h; rcases hk with rfl | rfl <;> exact absurd h (by decide)
theorem nI_0lt {p : Nat} (h : nI p = 0) (hp : p < 2 ^ 31) : p = 0 := (nI_eq (a := p) (b := 0) hp (by decide)).mp (by rw [h]; rfl)
theorem t_path_last {s : c_S} : ∀ {ps : List Nat} {x : Int32} {l : Nat}, t_path s x ps → ps.Pairwise (· < ·) → l ∈ ps → (∀ p ∈ ps, p ≤ l) → s.1 7 l = 0
  | [], _, _, _, _, h, _ => by cases h
  | [p], x, l, h, _, hl, _ => by
    have : l = p := by simpa using hl
    subst this
    exact h.2.2.2
  | p :: q :: t, x, l, h, hp, hl, hle => by
    have h2 := List.pairwise_cons.mp hp
    rcases List.mem_cons.mp hl with rfl | hl
    · have h3 := h2.1 q List.mem_cons_self
      have h4 := hle q (List.mem_cons_of_mem _ List.mem_cons_self)
      omega
    · exact t_path_last h.2.2.2 h2.2 hl (fun r hr => hle r (List.mem_cons_of_mem _ hr))
theorem t_path_snoc {s σ : c_S} {q : Nat} (hq : 0 < q) (hq2 : q < 12800) (hs : σ.1 7 q = 0) : ∀ {ps : List Nat} {x : Int32} {l : Nat}, t_path s x ps → ps.Pairwise (· < ·) → l ∈ ps → (∀ p ∈ ps, p ≤ l) → (∀ p ∈ ps, p ≠ l → σ.1 7 p = s.1 7 p) → σ.1 7 l = nI q → t_path σ x (ps ++ [q])
  | [], _, _, _, _, h, _, _, _ => by cases h
  | [p], x, l, h, _, hl, _, _, hn => by
    have : l = p := by simpa using hl
    subst this
    exact ⟨h.1, h.2.1, h.2.2.1, hn, hq, hq2, hs⟩
  | p :: p2 :: t, x, l, h, hp, hl, hle, hfr, hn => by
    have h2 := List.pairwise_cons.mp hp
    have h3 := h2.1 p2 List.mem_cons_self
    have h4 := hle p2 (List.mem_cons_of_mem _ List.mem_cons_self)
    have hl2 : l ∈ p2 :: t := by
      rcases List.mem_cons.mp hl with rfl | hl
      · omega
      · exact hl
    refine ⟨h.1, h.2.1, h.2.2.1, ?_⟩
    rw [hfr p List.mem_cons_self (by omega)]
    exact t_path_snoc hq hq2 hs h.2.2.2 h2.2 hl2 (fun r hr => hle r (List.mem_cons_of_mem _ hr)) (fun r hr hne => hfr r (List.mem_cons_of_mem _ hr) hne) hn
/-- the row behind a head, as far as it is read -/
def r_A (K lo h : Nat) (i3 i4 : Int32) (Tc : Nat) (s : c_S) : Prop := ∃ ps l, t_path s i3 ps ∧ (∀ p ∈ ps, h < p ∧ p < Tc ∧ t_r s K lo p) ∧ ps.Pairwise (· < ·) ∧ i4 = nI l ∧ l < Tc ∧ (l = 0 ∨ (h < l ∧ lo ≤ l ∧ ∀ p ∈ ps, p ≤ l))
theorem r_A.new {K lo h Tc T2 q : Nat} {s : c_S} (hlo : lo ≤ Tc) (hh : h < Tc) (hq : t_r s K Tc q) (hq2 : q < T2) (hq3 : q ≠ 0 → s.1 7 q = 0) (hT2 : T2 ≤ 12800) : r_A K lo h (nI q) (nI q) T2 s := by
  by_cases h0 : q = 0
  · subst h0
    exact ⟨[], 0, rfl, fun p hp => (by cases hp), List.Pairwise.nil, rfl, hq2, Or.inl rfl⟩
  · have h1 := t_r_lo hq h0
    refine ⟨[q], q, ⟨rfl, by omega, h1.2, hq3 h0⟩, fun p hp => ?_, List.pairwise_singleton _ _, rfl, hq2, Or.inr ⟨by omega, by omega, fun p hp => ?_⟩⟩
    · have : p = q := by simpa using hp
      subst this
      exact ⟨by omega, hq2, t_r_up _ _ _ _ _ (Nat.le_refl _) hlo hq⟩
    · have : p = q := by simpa using hp
      omega
theorem r_A.set {K lo h l Tc T2 q : Nat} {i3 : Int32} {s s2 : c_S} {ps : List Nat} (hp : t_path s i3 ps) (ha : ∀ p ∈ ps, h < p ∧ p < Tc ∧ t_r s K lo p) (hpw : ps.Pairwise (· < ·)) (hl : l ≠ 0) (hl2 : l < Tc) (hh : h < l) (hle : ∀ p ∈ ps, p ≤ l) (hlo : lo ≤ Tc) (hTT : Tc ≤ T2) (hT2 : T2 ≤ 12800) (ho : r_old Tc s s2) (hq : t_r s2 K Tc q) (hq2 : q < T2) (hq3 : q ≠ 0 → s2.1 7 q = 0) : r_A K lo h i3 (nI q) T2 (c_put s2 7 l (nI q)) := by
  have e7 : ∀ m, m ≠ l → (c_put s2 7 l (nI q)).1 7 m = s2.1 7 m := fun m hm => by rw [c_put_get, if_neg hm]
  have e7l : (c_put s2 7 l (nI q)).1 7 l = nI q := c_put_same
  have hpath2 : t_path s2 i3 ps := t_path_fr (fun p hp => (ho p (ha p hp).2.1).2.2.2) hp
  have htr : ∀ p ∈ ps, t_r (c_put s2 7 l (nI q)) K lo p := fun p hpp => by
    have h1 : t_r s2 K lo p := t_r_old (ha p hpp).2.2 (ha p hpp).2.1 ho
    refine t_r_fr K p (fun m _ _ => ?_) (fun m _ hm => e7 m (by have := hle p hpp; omega)) h1
    exact ⟨by rw [c_put_off (by decide)], by rw [c_put_off (by decide)], by rw [c_put_off (by decide)]⟩
  by_cases h0 : q = 0
  · subst h0
    refine ⟨ps, 0, t_path_fr (fun p hpp => ?_) hpath2, fun p hpp => ⟨(ha p hpp).1, by have := (ha p hpp).2.1; omega, htr p hpp⟩, hpw, rfl, by omega, Or.inl rfl⟩
    by_cases hpl : p = l
    · subst hpl
      rw [e7l, t_path_last hpath2 hpw hpp hle]; rfl
    · exact e7 p hpl
  · have h1 := t_r_lo hq h0
    have hqs : (c_put s2 7 l (nI q)).1 7 q = 0 := by rw [e7 q (by omega)]; exact hq3 h0
    have htq : t_r (c_put s2 7 l (nI q)) K lo q := by
      refine t_r_up _ _ _ _ _ (Nat.le_refl _) hlo (t_r_fr K q (fun m _ _ => ?_) (fun m hm _ => e7 m (by omega)) hq)
      exact ⟨by rw [c_put_off (by decide)], by rw [c_put_off (by decide)], by rw [c_put_off (by decide)]⟩
    by_cases hm : l ∈ ps
    · refine ⟨ps ++ [q], q, t_path_snoc (by omega) h1.2 hqs hpath2 hpw hm hle (fun p _ hne => e7 p hne) e7l, fun p hpp => ?_, ?_, rfl, hq2, Or.inr ⟨by omega, by omega, fun p hpp => ?_⟩⟩
      · rcases List.mem_append.mp hpp with hpp | hpp
        · exact ⟨(ha p hpp).1, by have := (ha p hpp).2.1; omega, htr p hpp⟩
        · have : p = q := by simpa using hpp
          subst this
          exact ⟨by omega, hq2, htq⟩
      · refine List.pairwise_append.mpr ⟨hpw, List.pairwise_singleton _ _, fun a ha1 b hb1 => ?_⟩
        have : b = q := by simpa using hb1
        have := hle a ha1
        omega
      · rcases List.mem_append.mp hpp with hpp | hpp
        · have := hle p hpp; omega
        · have : p = q := by simpa using hpp
          omega
    · refine ⟨ps, q, t_path_fr (fun p hpp => e7 p (fun e => hm (e ▸ hpp))) hpath2, fun p hpp => ⟨(ha p hpp).1, by have := (ha p hpp).2.1; omega, htr p hpp⟩, hpw, rfl, hq2, Or.inr ⟨by omega, by omega, fun p hpp => by have := hle p hpp; omega⟩⟩
theorem r_A.keep {K lo h Tc T2 q : Nat} {i3 : Int32} {s s2 : c_S} {ps : List Nat} (hp : t_path s i3 ps) (ha : ∀ p ∈ ps, h < p ∧ p < Tc ∧ t_r s K lo p) (hpw : ps.Pairwise (· < ·)) (hh : h < Tc) (hlo : lo ≤ Tc) (hTT : Tc ≤ T2) (hT2 : T2 ≤ 12800) (ho : r_old Tc s s2) (hq : t_r s2 K Tc q) (hq2 : q < T2) : r_A K lo h i3 (nI q) T2 s2 := by
  refine ⟨ps, q, t_path_fr (fun p hp => (ho p (ha p hp).2.1).2.2.2) hp, fun p hpp => ⟨(ha p hpp).1, by have := (ha p hpp).2.1; omega, t_r_old (ha p hpp).2.2 (ha p hpp).2.1 ho⟩, hpw, rfl, hq2, ?_⟩
  by_cases h0 : q = 0
  · exact Or.inl h0
  · have h1 := t_r_lo hq h0
    exact Or.inr ⟨by omega, by omega, fun p hpp => by have := (ha p hpp).2.1; omega⟩
set_option maxHeartbeats 1000000 in
theorem rd_app (K d lo h w : Nat) (hd : 4 ≤ d) (hp : ∀ (T sc : Nat) (s : c_S), s.1 27 5 = nI sc → sc ≤ w → s.1 3 7 = nI T → 1 ≤ T → T ≤ 12800 → k_ok (c_M d 205 [v_r 27, v_i (nI (w + 1))] s) (r_Q K T T s)) : ∀ (n : Nat) (i3 i4 i5 : Int32) (sc Tc : Nat) (s : c_S), s.1 27 5 = nI sc → sc ≤ w → s.1 3 7 = nI Tc → 1 ≤ Tc → Tc ≤ 12800 → lo ≤ Tc → t_r s K lo h → h < Tc → (h ≠ 0 → s.1 7 h = 0) → r_A K lo h i3 i4 Tc s → k_m i5 < n → k_ok (b_Re_application_16 (c_M d) (nI w) (nI h) i3 i4 i5 s) (r_Q (K + 1) lo Tc s)
  | 0, _, _, _, _, _, _, _, _, _, _, _, _, _, _, _, _, hn => absurd hn (Nat.not_lt_zero _)
  | n + 1, i3, i4, i5, sc, Tc, s, hsc, hs, hT, h1, h2, hlo, hh, hhT, hh7, hA, hn => by
    have back : k_ok (some (s, nI h)) (r_Q (K + 1) lo Tc s) := k_some ⟨k_F.rf, rfl, Tc, h, hT, Nat.le_refl _, h2, rfl, hhT, t_r_up _ _ _ _ _ (by omega) (Nat.le_refl _) hh, hh7, r_old.rf⟩
    have fin : k_ok (b_Re_application_78 (c_M d) (nI h) i3 s) (r_Q (K + 1) lo Tc s) := by
      rw [e_Re_application_78]
      refine k_if (fun _ => k_if (fun _ => back) (fun _ => ?_)) (fun _ => back)
      refine k_bd (q_No_place d (by omega) _ _) (fun s_1 x_1 g_1 => ?_)
      obtain ⟨rfl, -⟩ := g_1
      refine k_bd (q_No_place d (by omega) _ _) (fun s_2 x_2 g_2 => ?_)
      obtain ⟨rfl, -⟩ := g_2
      refine k_bd (rd_node d (by omega) _ _ _ _ _ _ hT h1 h2) (fun s_3 x_3 g_3 => k_some ?_)
      rcases g_3 with ⟨h, rfl⟩ | ⟨hlt, rfl, hf2, ht, ho2, e4, e5, e6, e7⟩
      · exact (r_Q.zero h.1 h.2 hT h1 h2)
      · obtain ⟨ps, l, a1, a2, a3, a4, a5, a6⟩ := hA
        refine ⟨k_F.mono hf2 rfl, hf2.2.1 (27, 5) (by decide), Tc + 1, Tc, ht, by omega, by omega, rfl, by omega, Or.inr ⟨hlo, hlt, fun h => ?_, fun _ => ⟨h, ps, e5, hhT, t_r_old hh hhT ho2, ?_, fun p hpp => ⟨(a2 p hpp).2.1, t_r_old (a2 p hpp).2.2 (a2 p hpp).2.1 ho2⟩⟩, fun h => ?_⟩, fun _ => e7, ho2.le hlo⟩
        · rw [e4] at h; exact absurd h (by decide)
        · rw [e6]; exact t_path_fr (fun p hpp => (ho2 p (a2 p hpp).2.1).2.2.2) a1
        · rw [e4] at h; exact absurd h (by decide)
    rw [e_Re_application_16]
    refine k_if (fun h5 => k_if (fun _ => ?_) (fun _ => fin)) (fun _ => fin)
    refine k_bd (q_Re_startsPart d (by omega) _) (fun s_1 x_1 g_1 => ?_)
    obtain ⟨rfl, -⟩ := g_1
    refine k_if (fun _ => fin) (fun _ => ?_)
    rw [nI_1]
    refine k_bd (hp Tc sc _ hsc hs hT h1 h2) (fun s_2 x_2 g_2 => ?_)
    obtain ⟨f2, sc2, T2, q, t2, le2, le3, rfl, q2, trq, q7, o2⟩ := g_2
    have hh2 : t_r s_2 K lo h := t_r_old hh hhT o2
    have hh72 : h ≠ 0 → s_2.1 7 h = 0 := fun h0 => by rw [(o2 h hhT).2.2.2]; exact hh7 h0
    obtain ⟨ps, l, a1, a2, a3, a4, a5, a6⟩ := hA
    refine k_if (fun _ => ?_) (fun _ => ?_)
    · rw [e_Re_application_68]
      refine k_mono (rd_app K d lo h w hd hp n _ _ _ sc T2 s_2 (sc2.trans hsc) hs t2 (by omega) le3 (by omega) hh2 (by omega) hh72 (r_A.new hlo hhT trq q2 q7 le3) (k_up h5 hn)) (fun σ r g => g.comp f2 sc2 (o2.le hlo) le2)
    · subst a4
      rcases a6 with rfl | ⟨l1, l2, l3⟩
      · obtain ⟨d, rfl⟩ : ∃ e, d = e + 1 := ⟨d - 1, by omega⟩
        rw [m_No_setSibling, e_No_setSibling_0, if_neg (by decide), c_bd_some, e_Re_application_68]
        refine k_mono (rd_app K (d + 1) lo h w hd hp n _ _ _ sc T2 s_2 (sc2.trans hsc) hs t2 (by omega) le3 (by omega) hh2 (by omega) hh72 (r_A.keep a1 a2 a3 hhT hlo le2 le3 o2 trq q2) (k_up h5 hn)) (fun σ r g => g.comp f2 sc2 (o2.le hlo) le2)
      · obtain ⟨d, rfl⟩ : ∃ e, d = e + 1 := ⟨d - 1, by omega⟩
        rw [m_No_setSibling, e_No_setSibling_0, if_pos (show (0 : Int32) < nI l from nI_lt (a := 0) (by omega) (by omega)), if_pos (show nI l < (12800 : Int32) from nI_lt (b := 12800) (by omega) (by decide)), c_rg_nI (by omega) (by decide), c_bd_some, e_Re_application_68, nI_clamp (show l < 2 ^ 31 by omega)]
        have fput : k_F [1, 3, 4, 5, 6, 7, 8, 9, 10, 27, 28, 29] [(1, 1), (27, 10), (27, 11)] s_1 (c_put s_2 7 l (nI q)) := k_F.put f2 rfl
        have oput : r_old lo s_1 (c_put s_2 7 l (nI q)) := (o2.le hlo).tr (fun m hm => ⟨by rw [c_put_off (by decide)], by rw [c_put_off (by decide)], by rw [c_put_off (by decide)], by rw [c_put_get, if_neg (by omega)]⟩)
        refine k_mono (rd_app K (d + 1) lo h w hd hp n _ _ _ sc T2 (c_put s_2 7 l (nI q)) (by rw [c_put_off (by decide)]; exact sc2.trans hsc) hs (by rw [c_put_off (by decide)]; exact t2) (by omega) le3 (by omega) ?_ (by omega) (fun h0 => by rw [c_put_get, if_neg (by omega)]; exact hh72 h0) (r_A.set a1 a2 a3 (by omega) a5 l1 l3 hlo le2 le3 o2 trq q2 q7) (k_up h5 hn)) (fun σ r g => g.comp fput (by rw [c_put_off (by decide)]; exact sc2) oput le2)
        exact t_r_fr K h (fun m _ _ => ⟨by rw [c_put_off (by decide)], by rw [c_put_off (by decide)], by rw [c_put_off (by decide)]⟩) (fun m _ hm => by rw [c_put_get, if_neg (by omega)]) hh2
