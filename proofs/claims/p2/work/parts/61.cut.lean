/-- places of tokens, and the two longs of a WORD, as every cutting leaves them -/
def z_pl (s : c_S) : Prop := ∀ i, i < 4002 → ∃ p, p ≤ 4000 ∧ s.1 37 i = nI p
def z_fl (s : c_S) : Prop := ∀ i, i < 4002 → z_lb (s.2 38 i) (64 ^ 9) ∧ z_lb (s.2 39 i) (64 ^ 3)
theorem z_pl.put {s : c_S} {t p : Nat} (h : z_pl s) (hp : p ≤ 4000) : z_pl (c_put s 37 t (nI p)) := fun i hi => by
  rw [c_put_get]
  by_cases e : i = t
  · rw [if_pos e]; exact ⟨p, hp, rfl⟩
  · rw [if_neg e]; exact h i hi
theorem z_pl.of {s t : c_S} (h : z_pl s) (e : t.1 37 = s.1 37) : z_pl t := fun i hi => by rw [e]; exact h i hi
theorem z_fl.of {s t : c_S} (h : z_fl s) (e1 : t.2 38 = s.2 38) (e2 : t.2 39 = s.2 39) : z_fl t := fun i hi => by rw [e1, e2]; exact h i hi
theorem z_fl.put8 {s : c_S} {t : Nat} {x : Int64} (h : z_fl s) (hx : z_lb x (64 ^ 9)) : z_fl (c_putL s 38 t x) := fun i hi => by
  refine ⟨?_, by rw [c_putL_off (by decide)]; exact (h i hi).2⟩
  rw [c_putL_get]
  by_cases e : i = t
  · rw [if_pos e]; exact hx
  · rw [if_neg e]; exact (h i hi).1
theorem z_fl.put9 {s : c_S} {t : Nat} {x : Int64} (h : z_fl s) (hx : z_lb x (64 ^ 3)) : z_fl (c_putL s 39 t x) := fun i hi => by
  refine ⟨by rw [c_putL_off (by decide)]; exact (h i hi).1, ?_⟩
  rw [c_putL_get]
  by_cases e : i = t
  · rw [if_pos e]; exact hx
  · rw [if_neg e]; exact (h i hi).2
/-- while the text is cut -/
def z_tp (s : c_S) : Prop := ∀ i, 0 ≤ (s.1 35 i).toInt ∧ (s.1 35 i).toInt ≤ 255
theorem z_tp.of {s t : c_S} (h : z_tp s) (e : t.1 35 = s.1 35) : z_tp t := fun i => by rw [e]; exact h i
def z_cut (n : Nat) (s : c_S) : Prop := s.1 34 3 = nI n ∧ s.1 34 2 = 0 ∧ z_pl s ∧ z_fl s ∧ z_tp s
/-- cut -/
def z_tok (n : Nat) (s : c_S) : Prop := s.1 34 2 = 0 ∧ s.1 34 3 = nI n ∧ s.1 34 8 = 0 ∧ s.1 34 9 = 0 ∧ (∃ N, N ≤ n ∧ s.1 36 N = 0) ∧ z_pl s ∧ z_fl s
def z_cP (n : Nat) (s σ : c_S) : Prop := z_F [36, 37] [8, 9] [38, 39] s σ ∧ z_tok n σ
theorem z_cP.pre {n : Nat} {s t σ : c_S} (h : z_F [36, 37] [8, 9] [38, 39] s t) (g : z_cP n t σ) : z_cP n s σ := ⟨h.tr g.1, g.2⟩
theorem z_cut.put {n k j : Nat} {s : c_S} {x : Int32} (h : z_cut n s) (hk : k ≠ 34 ∧ k ≠ 37 ∧ k ≠ 35) : z_cut n (c_put s k j x) :=
  ⟨by rw [c_put_ne (Ne.symm hk.1)]; exact h.1, by rw [c_put_ne (Ne.symm hk.1)]; exact h.2.1, h.2.2.1.of (c_put_ne (Ne.symm hk.2.1)), h.2.2.2.1.of rfl rfl, h.2.2.2.2.of (c_put_ne (Ne.symm hk.2.2))⟩
theorem nI_p9 (k : Nat) : nI k + 9 = nI (k + 9) := nI_add k 9
theorem nI_p12 (k : Nat) : nI k + 12 = nI (k + 12) := nI_add k 12
theorem nI_sub {a b : Nat} (h : b ≤ a) (ha : a < 2 ^ 31) : nI a - nI b = nI (a - b) := by
  apply Int32.toInt_inj.mp
  rw [Int32.toInt_sub, nI_toInt ha, nI_toInt (by omega), nI_toInt (by omega), Int.bmod_def]
  omega
theorem z_end (n t : Nat) (s : c_S) (hn : n ≤ 4000) (ht : t ≤ n) (h : z_cut n s) : k_ok (c_rg (nI t) 4002 (c_rg (nI t) 4002 (some ((c_put (c_put (c_put (c_put s 36 (nI t).toNatClampNeg 0) 37 (nI t).toNatClampNeg (s.1 34 3)) 34 8 0) 34 9 0), 0)))) (fun σ _ => z_cP n s σ) := by
  rw [c_rg_nI (by omega) (by decide), c_rg_nI (by omega) (by decide), nI_clamp (show t < 2 ^ 31 by omega), h.1]
  refine k_some ⟨z_F.puf (z_F.puf (z_F.put (z_F.put z_F.rf rfl (by decide)) rfl (by decide)) rfl) rfl, ?_, ?_, ?_, c_put_same, ⟨t, ht, ?_⟩, ?_, ?_⟩
  · rw [c_put_get, if_neg (by decide), c_put_get, if_neg (by decide), c_put_off (by decide), c_put_off (by decide)]; exact h.2.1
  · rw [c_put_get, if_neg (by decide), c_put_get, if_neg (by decide), c_put_off (by decide), c_put_off (by decide)]; exact h.1
  · rw [c_put_get, if_neg (by decide), c_put_same]
  · rw [c_put_off (by decide), c_put_off (by decide), c_put_off (by decide), c_put_same]
  · refine (z_pl.put (s := c_put s 36 t 0) (t := t) (h.2.2.1.of (c_put_ne (by decide))) hn).of ?_
    rw [c_put_ne (by decide), c_put_ne (by decide)]
  · exact h.2.2.2.1.of rfl rfl
/-- from the place k on, with t tokens -/
def z_go (d n k : Nat) : Prop := ∀ (t : Nat) (s : c_S), t ≤ k → z_cut n s → k_ok (b_Rm_cutAll_17 (c_M d) (nI t) (nI k) s) (fun σ _ => z_cP n s σ)
theorem z_205 (d n t f k : Nat) (a : Int64) (s : c_S) (hn : n ≤ 4000) (ht : t ≤ f) (hf : f < k) (hk : k ≤ n) (ha : z_lb a (64 ^ 9)) (h : z_cut n s) (go : z_go d n k) : k_ok (b_Rm_cutAll_205 (c_M d) (nI t) (nI k) (nI f) a s) (fun σ _ => z_cP n s σ) := by
  rw [e_Rm_cutAll_205, c_rg_nI (by omega) (by decide), nI_clamp (show t < 2 ^ 31 by omega), nI_1]
  have key : ∀ x : Int32, k_ok (c_rg (nI t) 4002 (b_Rm_cutAll_17 (c_M d) (nI (t + 1)) (nI k) (c_put (c_putL s 38 t a) 36 t x))) (fun σ _ => z_cP n s σ) := fun x => by
    rw [c_rg_nI (by omega) (by decide)]
    have hc : z_cut n (c_put (c_putL s 38 t a) 36 t x) := z_cut.put (s := c_putL s 38 t a) ⟨h.1, h.2.1, h.2.2.1.of rfl, h.2.2.2.1.put8 ha, h.2.2.2.2.of rfl⟩ (by decide)
    exact k_mono (go (t + 1) _ (by omega) hc) (fun σ r g => g.pre (z_F.put (z_F.putL z_F.rf rfl) rfl (by decide)))
  exact k_if (fun _ => key 4) (fun _ => key 1)
theorem z_155 (d n t f k : Nat) (hd : 1 ≤ d) (a : Int64) (hn : n ≤ 4000) (ht : t ≤ f) (hf : f < k) (hk : k ≤ n) (ha : z_lb a (64 ^ 9)) (go : z_go d n k) : ∀ (m q : Nat) (s : c_S), 3 ≤ q + m → q ≤ 3 → z_cut n s → z_lb (s.2 39 t) (64 ^ q) → (∀ i, f ≤ i → i < k → z_LD (s.1 35 i)) → k_ok (b_Rm_cutAll_155 (c_M d) (nI t) (nI k) (nI f) a (nI (f + 9 + q)) s) (fun σ _ => z_cP n s σ) := by
  intro m
  induction m with
  | zero =>
    intro q s hq hq3 h hl hLD
    have : q = 3 := by omega
    subst this
    rw [e_Rm_cutAll_155]
    refine k_if (fun _ => k_if (fun h2 => ?_) (fun _ => z_205 d n t f k a s hn ht hf hk ha h go)) (fun _ => z_205 d n t f k a s hn ht hf hk ha h go)
    rw [nI_p12] at h2
    exact absurd h2 (nI_nlt (by omega) (by omega))
  | succ m ih =>
    intro q s hq hq3 h hl hLD
    rw [e_Rm_cutAll_155]
    refine k_if (fun h1 => k_if (fun h2 => ?_) (fun _ => z_205 d n t f k a s hn ht hf hk ha h go)) (fun _ => z_205 d n t f k a s hn ht hf hk ha h go)
    have h1' : f + 9 + q < k := (nI_ltI (by omega) (by omega)).mp h1
    rw [nI_p12] at h2
    have h2' : f + 9 + q < f + 12 := (nI_ltI (by omega) (by omega)).mp h2
    rw [c_rg_nI (by omega) (by decide), c_rg_nI (by omega) (by decide), nI_clamp (show f + 9 + q < 2 ^ 31 by omega)]
    refine k_bd (z_rank d hd _ s (hLD _ (by omega) h1')) (fun s_1 x_1 g_1 => ?_)
    obtain ⟨rfl, g1, g2⟩ := g_1
    rw [c_rg_nI (by omega) (by decide), nI_clamp (show t < 2 ^ 31 by omega), nI_1]
    have hs := z_lb_step hl (show q ≤ 8 by omega) (r := x_1) ⟨by omega, by omega⟩
    have h3 : (64 : Nat) ^ (q + 1) ≤ 64 ^ 3 := Nat.pow_le_pow_right (by decide) (by omega)
    refine k_mono (ih (q + 1) (c_putL s_1 39 t _) (by omega) (by omega) ⟨h.1, h.2.1, h.2.2.1.of rfl, h.2.2.2.1.put9 (hs.le h3), h.2.2.2.2.of rfl⟩ ?_ hLD) (fun σ r g => g.pre (z_F.putL z_F.rf rfl))
    rw [c_putL_get, if_pos rfl]; exact hs
theorem z_77 (d n t f : Nat) (hd : 1 ≤ d) (hn : n ≤ 4000) (ht : t ≤ f) (go : ∀ k, f < k → k ≤ n → z_go d n k) : ∀ (m k : Nat) (a : Int64) (s : c_S), n < k + m → f < k → k ≤ n → z_cut n s → z_lb a (64 ^ (min (k - f) 9)) → s.2 39 t = 0 → (∀ i, f ≤ i → i < k → z_LD (s.1 35 i)) → k_ok (b_Rm_cutAll_77 (c_M d) (nI t) (nI k) (nI f) a s) (fun σ _ => z_cP n s σ) := by
  intro m
  induction m with
  | zero => intro k a s h1 h2 h3; omega
  | succ m ih =>
    intro k a s hm hf hk h ha hl hLD
    have ha9 : z_lb a (64 ^ 9) := ha.le (Nat.pow_le_pow_right (by decide) (by omega))
    have h0 : z_lb (s.2 39 t) (64 ^ 0) := by rw [hl]; exact ⟨by decide, by decide⟩
    have out : k_ok (b_Rm_cutAll_155 (c_M d) (nI t) (nI k) (nI f) a (nI f + 9) s) (fun σ _ => z_cP n s σ) := by
      rw [nI_p9]
      exact z_155 d n t f k hd a hn ht hf hk ha9 (go k hf hk) 3 0 s (by omega) (by omega) h h0 hLD
    have on : k < n → z_LD (s.1 35 k) → k_ok (b_Rm_cutAll_109 (c_M d) (nI t) (nI k) (nI f) a s) (fun σ _ => z_cP n s σ) := by
      intro hkn hc
      have hLD' : ∀ i, f ≤ i → i < k + 1 → z_LD (s.1 35 i) := fun i h1 h2 => by
        by_cases e : i = k
        · rw [e]; exact hc
        · exact hLD i h1 (by omega)
      rw [e_Rm_cutAll_109, nI_sub (by omega) (by omega)]
      refine k_if (fun h9 => ?_) (fun h9 => ?_)
      · have h9' : k - f < 9 := (nI_ltI (b := 9) (by omega) (by decide)).mp h9
        rw [c_rg_nI (by omega) (by decide), nI_clamp (show k < 2 ^ 31 by omega)]
        refine k_bd (z_rank d hd _ s hc) (fun s_1 x_1 g_1 => ?_)
        obtain ⟨rfl, g1, g2⟩ := g_1
        rw [nI_1]
        refine ih (k + 1) _ s_1 (by omega) (by omega) (by omega) h ?_ hl hLD'
        have e1 : min (k - f) 9 = k - f := by omega
        have e2 : min (k + 1 - f) 9 = k - f + 1 := by omega
        rw [e1] at ha
        rw [e2]
        exact z_lb_step ha (by omega) ⟨by omega, by omega⟩
      · have h9' : ¬ k - f < 9 := fun h => h9 (nI_lt (b := 9) h (by decide))
        rw [nI_1]
        refine ih (k + 1) _ s (by omega) (by omega) (by omega) h ?_ hl hLD'
        have e1 : min (k - f) 9 = 9 := by omega
        have e2 : min (k + 1 - f) 9 = 9 := by omega
        rw [e2]; rw [e1] at ha; exact ha
    rw [e_Rm_cutAll_77, h.1]
    refine k_if (fun hlt => ?_) (fun _ => out)
    have hkn : k < n := (nI_ltI (by omega) (by omega)).mp hlt
    rw [c_rg_nI (by omega) (by decide), nI_clamp (show k < 2 ^ 31 by omega)]
    refine k_bd (z_isLetter d hd _ s) (fun s_1 x_1 g_1 => ?_)
    obtain ⟨rfl, g1⟩ := g_1
    refine k_if (fun _ => ?_) (fun hx => on hkn (g1 hx))
    rw [c_rg_nI (by omega) (by decide)]
    refine k_bd (z_isDigit d hd _ s_1) (fun s_2 x_2 g_2 => ?_)
    obtain ⟨rfl, g2⟩ := g_2
    exact k_if (fun _ => out) (fun hx => on hkn (g2 hx))
theorem z_17 (d n : Nat) (hd : 1 ≤ d) (hn : n ≤ 4000) : ∀ (m k : Nat), n ≤ k + m → k ≤ n → z_go d n k := by
  intro m
  induction m with
  | zero =>
    intro k h1 h2 t s ht h
    rw [e_Rm_cutAll_17, h.1, if_neg (nI_nlt (by omega) (by omega)), ← h.1]
    exact z_end n t s hn (by omega) h
  | succ m ih =>
    intro k h1 h2 t s ht h
    rw [e_Rm_cutAll_17, h.1]
    refine k_if (fun hlt => ?_) (fun _ => ?_)
    · have hkn : k < n := (nI_ltI (by omega) (by omega)).mp hlt
      have nx : z_go d n (k + 1) := ih (k + 1) (by omega) (by omega)
      rw [c_rg_nI (by omega) (by decide), nI_clamp (show k < 2 ^ 31 by omega), nI_1]
      refine k_if (fun _ => nx t s (by omega) h) (fun _ => k_if (fun _ => nx t s (by omega) h) (fun _ => ?_))
      rw [c_rg_nI (by omega) (by decide), c_rg_nI (by omega) (by decide), nI_clamp (show t < 2 ^ 31 by omega)]
      have hb : z_F [36, 37] [8, 9] [38, 39] s (c_putL (c_put s 37 t (nI k)) 39 t 0) := z_F.putL (z_F.put z_F.rf rfl (by decide)) rfl
      have hc : z_cut n (c_putL (c_put s 37 t (nI k)) 39 t 0) := ⟨by show (c_put s 37 t (nI k)).1 34 3 = _; rw [c_put_off (by decide)]; exact h.1, by show (c_put s 37 t (nI k)).1 34 2 = _; rw [c_put_off (by decide)]; exact h.2.1, (z_pl.put (p := k) (t := t) h.2.2.1 (by omega)).of rfl, z_fl.put9 (s := c_put s 37 t (nI k)) (h.2.2.2.1.of rfl rfl) ⟨by decide, by decide⟩, h.2.2.2.2.of (by show (c_put s 37 t (nI k)).1 35 = _; exact c_put_ne (by decide))⟩
      have e35 : (c_putL (c_put s 37 t (nI k)) 39 t 0).1 35 = s.1 35 := by show (c_put s 37 t (nI k)).1 35 = _; exact c_put_ne (by decide)
      have e39 : (c_putL (c_put s 37 t (nI k)) 39 t 0).2 39 t = 0 := by rw [c_putL_get, if_pos rfl]
      refine k_mono (P := fun σ _ => z_cP n (c_putL (c_put s 37 t (nI k)) 39 t 0) σ) ?_ (fun σ r g => g.pre hb)
      generalize c_putL (c_put s 37 t (nI k)) 39 t 0 = s' at hc e35 e39 ⊢
      have hch : 0 ≤ (s.1 35 k).toInt ∧ (s.1 35 k).toInt ≤ 255 := h.2.2.2.2 k
      have h7 : s'.1 35 k = s.1 35 k := by rw [e35]
      rw [e_Rm_cutAll_67]
      obtain ⟨σ1, x1, e1, hσ, g1⟩ := z_isLetter d hd (s.1 35 k) s'
      subst hσ
      rw [e1, c_bd_some]
      refine k_if (fun _ => ?_) (fun hx => ?_)
      · refine k_bd (z_isSignOf d hd _ σ1) (fun s_2 x_2 g_2 => ?_)
        have g_2 := g_2.symm
        subst g_2
        have key : ∀ (x : Int32), k_ok (c_rg (nI t) 4002 (c_rg (nI t) 4002 (b_Rm_cutAll_17 (c_M d) (nI t + 1) (nI k + 1) (c_putL (c_put σ1 36 (nI t).toNatClampNeg x) 38 (nI t).toNatClampNeg (s.1 35 k).toInt64)))) (fun σ _ => z_cP n σ1 σ) := by
          intro x
          rw [c_rg_nI (by omega) (by decide), c_rg_nI (by omega) (by decide), nI_clamp (show t < 2 ^ 31 by omega), nI_1, nI_1]
          have hp := z_cut.put (k := 36) (j := t) (x := x) hc (by decide)
          have hl : z_lb (s.1 35 k).toInt64 (64 ^ 9) := by
            have h9 : (64 : Nat) ^ 9 = 18014398509481984 := by decide
            unfold z_lb; rw [Int32.toInt_toInt64, h9]; omega
          refine k_mono (nx (t + 1) (c_putL (c_put σ1 36 t x) 38 t (s.1 35 k).toInt64) (by omega) ⟨hp.1, hp.2.1, hp.2.2.1.of rfl, hp.2.2.2.1.put8 hl, hp.2.2.2.2.of rfl⟩) (fun σ r g => g.pre (z_F.putL (z_F.put z_F.rf rfl (by decide)) rfl))
        exact k_if (fun _ => key 4) (fun _ => key 3)
      · have hLDk : z_LD (s.1 35 k) := g1 hx
        rw [e_Rm_cutAll_77, hc.1, if_pos hlt, c_rg_nI (by omega) (by decide), nI_clamp (show k < 2 ^ 31 by omega), h7, e1, c_bd_some, if_neg hx, e_Rm_cutAll_109, nI_sub (Nat.le_refl _) (by omega), if_pos (show nI (k - k) < (9 : Int32) by rw [Nat.sub_self]; decide), c_rg_nI (by omega) (by decide), nI_clamp (show k < 2 ^ 31 by omega), h7]
        refine k_bd (z_rank d hd _ σ1 hLDk) (fun s_2 x_2 g_2 => ?_)
        obtain ⟨e2, g1', g2'⟩ := g_2
        have e2 := e2.symm
        subst e2
        rw [nI_1]
        refine z_77 d n t k hd hn ht (fun k' hk' hk2 t' s'' ht' hs'' => ih k' (by omega) hk2 t' s'' ht' hs'') (n + 1) (k + 1) _ σ1 (by omega) (by omega) (by omega) hc ?_ e39 (fun i hi1 hi2 => ?_)
        · have e3 : min (k + 1 - k) 9 = 0 + 1 := by omega
          rw [e3]
          exact z_lb_step (x := 0) (q := 0) ⟨by decide, by decide⟩ (by omega) ⟨by omega, by omega⟩
        · have : i = k := by omega
          rw [this, h7]; exact hLDk
    · rw [← h.1]; exact z_end n t s hn (by omega) h
theorem rm_cutAll (d : Nat) (hd : 2 ≤ d) (s : c_S) (n : Nat) (hn : n ≤ 4000) (hs : s.1 34 2 = nI n) (hp : z_pl s) (hf : z_fl s) (ht : z_tp s) : k_ok (c_M d 24 [v_r 34] s) (fun σ _ => z_F [36, 37] [2, 3, 8, 9] [38, 39] s σ ∧ z_tok n σ) := by
  obtain ⟨d, rfl⟩ : ∃ e, d = e + 1 := ⟨d - 1, by omega⟩
  rw [m_Rm_cutAll, e_Rm_cutAll_0, hs]
  have hc : z_cut n (c_put (c_put s 34 3 (nI n)) 34 2 0) := ⟨by rw [c_put_get, if_neg (by decide), c_put_same], c_put_same, hp.of (by rw [c_put_ne (by decide), c_put_ne (by decide)]), hf.of rfl rfl, ht.of (by rw [c_put_ne (by decide), c_put_ne (by decide)])⟩
  refine k_mono (z_17 d n (by omega) hn n 0 (by omega) (by omega) 0 _ (Nat.le_refl _) hc) (fun σ r g => ⟨z_F.tr (z_F.puf (z_F.puf z_F.rf rfl) rfl) (z_F.mono g.1 rfl), g.2⟩)
