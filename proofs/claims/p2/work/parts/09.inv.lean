theorem iv_at {l : c_L} {i : Nat} {f : c_V → c_R} {x : c_S × Int32} (h : c_at l i f = some x) : ∃ v, c_lk l i = some v ∧ f v = some x := by
  unfold c_at at h
  cases hl : c_lk l i with
  | none => rw [hl] at h; cases h
  | some v => rw [hl] at h; exact ⟨v, rfl, h⟩
theorem iv_isI {v : c_V} {f : Int32 → c_R} {x : c_S × Int32} (h : c_isI v f = some x) : ∃ y, v = .inl y ∧ f y = some x := by
  rcases v with v | v
  · exact ⟨v, rfl, h⟩
  · cases h
theorem iv_isL {v : c_V} {f : Int64 → c_R} {x : c_S × Int32} (h : c_isL v f = some x) : ∃ y, v = .inr (.inl y) ∧ f y = some x := by
  rcases v with v | v | v
  · cases h
  · exact ⟨v, rfl, h⟩
  · cases h
theorem iv_isR {v : c_V} {f : Nat → c_R} {x : c_S × Int32} (h : c_isR v f = some x) : ∃ y, v = .inr (.inr y) ∧ f y = some x := by
  rcases v with v | v | v
  · cases h
  · cases h
  · exact ⟨v, rfl, h⟩
theorem iv_p1 {st : List c_V} {f : c_V → List c_V → c_R} {x : c_S × Int32} (h : c_p1 st f = some x) : ∃ v r, st = v :: r ∧ f v r = some x := by
  cases st with
  | nil => cases h
  | cons v r => exact ⟨v, r, rfl, h⟩
theorem iv_obj {CT : List c_D} {k u : Nat} {f : List Nat → c_R} {x : c_S × Int32} (h : c_obj CT k u f = some x) : ∃ sl, c_nth CT k = some (.inl (u, sl)) ∧ f sl = some x := by
  unfold c_obj at h
  rcases hn : c_nth CT k with _ | ⟨⟨ci, sl⟩⟩ | _
  · rw [hn] at h; cases h
  · rw [hn] at h; dsimp only at h
    cases hb : Nat.beq ci u
    · rw [hb] at h; cases h
    · rw [hb] at h; rw [c_beq.mp hb]; exact ⟨sl, rfl, h⟩
  · rw [hn] at h; cases h
theorem iv_arr {CT : List c_D} {k : Nat} {f : FieldType → Nat → c_R} {x : c_S × Int32} (h : c_arr CT k f = some x) : ∃ ty n, c_nth CT k = some (.inr (ty, n)) ∧ f ty n = some x := by
  unfold c_arr at h
  rcases hn : c_nth CT k with _ | _ | ⟨ty, n⟩
  · rw [hn] at h; cases h
  · rw [hn] at h; cases h
  · rw [hn] at h; exact ⟨ty, n, rfl, h⟩
theorem iv_rg {i : Int32} {n : Nat} {f : c_R} {x : c_S × Int32} (h : c_rg i n f = some x) : vp_in i n ∧ f = some x := by
  unfold c_rg at h
  split at h
  · rename_i hc
    unfold c_inb at hc
    have h2 : ¬ (i < 0 ∨ n ≤ i.toNatClampNeg) := of_decide_eq_true hc
    exact ⟨h2, h⟩
  · cases h
theorem iv_bd {o : c_R} {f : c_S → Int32 → c_R} {x : c_S × Int32} (h : c_bd o f = some x) : ∃ σ y, o = some (σ, y) ∧ f σ y = some x := by
  unfold c_bd at h
  rcases o with _ | ⟨σ, y⟩
  · cases h
  · exact ⟨σ, y, rfl, h⟩
theorem iv_pop : ∀ (n : Nat) (acc st as r : List c_V), c_pop n acc st = some (as, r) → ∃ bs, as = bs ++ acc ∧ bs.length = n ∧ st = bs.reverse ++ r
  | 0, acc, st, as, r, h => by cases h; exact ⟨[], by simp⟩
  | n + 1, acc, [], as, r, h => by cases h
  | n + 1, acc, y :: st, as, r, h => by
    rw [c_pop] at h
    obtain ⟨bs, h1, h2, h3⟩ := iv_pop n _ _ _ _ h
    exact ⟨bs ++ [y], by simp [h1], by simp [h2], by simp [h3]⟩
theorem c_sum_eq {a : Nat → Nat} : ∀ r : List c_V, ((r.map (dv a)).map fun v => v.category).sum = c_sum r
  | [] => rfl
  | v :: r => by simp only [List.map_cons, List.sum_cons, c_sum, c_sum_eq r, c_cat_dv]
theorem c_bz_iff {v : Int32} (h : c_bz v = true) : v = 0 ∨ v = 1 := by
  simpa [c_bz] using h
def ck_s (mx : Nat) (q : Nat × c_E) : Bool := match q with
  | (_, ins, _) => match ins with
    | .istore_n i => decide (i.val < mx)
    | .istore i => decide (i < mx)
    | .lstore_n i => decide (i.val + 1 < mx)
    | .lstore i => decide (i + 1 < mx)
    | .iinc i _ => decide (i < mx)
    | _ => true
theorem k_s : ∀ q ∈ d_M, ∀ r ∈ q.1, ck_s q.2.2.2.2.2.2.1 r = true := by decide +kernel
theorem c_sw_tab {K : Nat → c_R} {x : Int32} {t pc : Nat} {z : c_S × Int32} : ∀ (fs : List Int) (sw : List (Int32 × Nat)) (lo : Int), ck_sw pc lo fs sw = true → -100 < lo → lo + fs.length < 200 → c_sw x t K sw = some z →
    ((x.toInt < lo ∨ lo + fs.length ≤ x.toInt) ∧ K t = some z) ∨ ∃ (j : Nat) (f : Int) (g : Nat), fs[j]? = some f ∧ x.toInt = lo + j ∧ (pc : Int) + f = g ∧ K g = some z
  | [], [], lo, _, _, _, h => Or.inl ⟨by simp; omega, h⟩
  | [], _ :: _, lo, hk, _, _, _ => by simp [ck_sw] at hk
  | _ :: _, [], lo, hk, _, _, _ => by simp [ck_sw] at hk
  | f :: fs, (k, g) :: r, lo, hk, h1, h2, h => by
    simp only [ck_sw, Bool.and_eq_true, decide_eq_true_eq] at hk
    obtain ⟨⟨rfl, hg⟩, hk⟩ := hk
    simp only [List.length_cons, Int.natCast_add, Int.natCast_one] at h2
    have hlo : (Int32.ofInt lo).toInt = lo := by
      rw [Int32.toInt_ofInt, Int.bmod_def, show (Int32.size : Nat) = 4294967296 from rfl]; omega
    rw [c_sw] at h
    split at h
    · rename_i hx
      exact Or.inr ⟨0, f, g, rfl, by rw [hx, hlo]; simp, hg, h⟩
    · rename_i hx
      have hne : x.toInt ≠ lo := fun he => hx (by rw [← Int32.ofInt_toInt x, he])
      rcases c_sw_tab fs r (lo + 1) hk (by omega) (by omega) h with ⟨h3, h4⟩ | ⟨j, f', g', e1, e2, e3, e4⟩
      · refine Or.inl ⟨?_, h4⟩
        simp only [List.length_cons, Int.natCast_add, Int.natCast_one]
        omega
      · exact Or.inr ⟨j + 1, f', g', by simpa using e1, by rw [e2]; simp; omega, e3, e4⟩
theorem c_sw_lk {K : Nat → c_R} {x : Int32} {t pc : Nat} {d : Int} {z : c_S × Int32} (hd : (pc : Int) + d = t) : ∀ (ps : List (Int × Int)) (sw : List (Int32 × Nat)), ck_lw pc ps sw = true → c_sw x t K sw = some z →
    ∃ g : Nat, (pc : Int) + Op.lookupswitch.offset ps d x.toInt = g ∧ K g = some z
  | [], [], _, h => ⟨t, hd, h⟩
  | [], _ :: _, hk, _ => by simp [ck_lw] at hk
  | _ :: _, [], hk, _ => by simp [ck_lw] at hk
  | (i, f) :: ps, (k, g) :: r, hk, h => by
    simp only [ck_lw, Bool.and_eq_true, decide_eq_true_eq] at hk
    obtain ⟨⟨⟨rfl, hi⟩, hg⟩, hk⟩ := hk
    have hlo : (Int32.ofInt i).toInt = i := by
      rw [Int32.toInt_ofInt, Int.bmod_def, show (Int32.size : Nat) = 4294967296 from rfl]; omega
    rw [c_sw] at h
    rw [Op.lookupswitch.offset_cons]
    split at h
    · rename_i hx
      exact ⟨g, by rw [if_pos (by rw [hx, hlo])]; exact hg, h⟩
    · rename_i hx
      rw [if_neg (fun he => hx (by rw [← Int32.ofInt_toInt x, ← he]))]
      exact c_sw_lk hd ps r hk h

/-- a field's link, by the table of links -/
theorem c_fld {s : State} {args : Array Value} {ow i u t : Nat} (hq : (ow, i, u, t) ∈ d_FL) (hts : ∀ w ∈ lw_g, w.before args s = true) : ∃ (C : String) (T : u_T) (N : Nat), d_CL[u]? = some (C, T, N) ∧ (∀ w ∈ u_ws C T N, w ∈ lw_g) ∧ t < N ∧ (Cond.fieldLink (d_nm ow) i C (T t).2.1 (T t).2.2.1).before args s = true ∧ (T t).1 = C ∧ (T t) = d_fn u t ∧ ∃ ty0 : Nat → FieldType, (∀ k, k < N → parseFieldDescriptor (T k).2.2.1 = some (ty0 k)) ∧ (∀ a, a < N → ∀ b, b < N → a ≠ b → (T a).2.1 ≠ (T b).2.1) := by
  have hk := k_fl _ hq
  simp only [ck_fl, Bool.and_eq_true, decide_eq_true_eq] at hk
  obtain ⟨h1, h2⟩ := hk
  have h3 := k_fm _ hq
  unfold c_flk at h3
  dsimp only at h3
  have hg : ∀ (C : String) (T : u_T) (N : Nat), (∀ w ∈ u_ws C T N, w ∈ lw_tbl) → ∀ w ∈ u_ws C T N, w ∈ lw_g := by
    intro C T N h w hw
    refine lw_g_of (h w hw) ?_
    obtain ⟨k, -, rfl⟩ := List.mem_map.mp hw
    unfold u_lay
    split <;> rfl
  have hl := hts _ (lw_g_of h3 rfl)
  have key : ∀ (C : String) (T : u_T) (N : Nat), c_nth d_CL u = some (C, T, N) → (∀ w ∈ u_ws C T N, w ∈ lw_tbl) → (∃ ty0 : Nat → FieldType, (∀ k, k < N → parseFieldDescriptor (T k).2.2.1 = some (ty0 k)) ∧ (∀ a, a < N → ∀ b, b < N → a ≠ b → (T a).2.1 ≠ (T b).2.1)) → ∃ (C : String) (T : u_T) (N : Nat), d_CL[u]? = some (C, T, N) ∧ (∀ w ∈ u_ws C T N, w ∈ lw_g) ∧ t < N ∧ (Cond.fieldLink (d_nm ow) i C (T t).2.1 (T t).2.2.1).before args s = true ∧ (T t).1 = C ∧ (T t) = d_fn u t ∧ ∃ ty0 : Nat → FieldType, (∀ k, k < N → parseFieldDescriptor (T k).2.2.1 = some (ty0 k)) ∧ (∀ a, a < N → ∀ b, b < N → a ≠ b → (T a).2.1 ≠ (T b).2.1) := by
    intro C T N hc hin hty
    have e1 : d_nm u = C := by simp only [d_nm, hc]
    have e2 : d_fn u t = T t := by simp only [d_fn, hc]
    have e3 : d_fN u = N := by simp only [d_fN, hc]
    rw [e1, e2] at hl
    rw [e2, e1] at h2
    rw [e3] at h1
    exact ⟨C, T, N, by rw [← c_nth_eq]; exact hc, hg C T N hin, h1, hl, h2, e2.symm, hty⟩
  match u, h1 with

  | 0, _ => exact key _ _ _ rfl i_Ce ⟨t_Ce, t_Ce_ok, n_Ce⟩
  | 1, _ => exact key _ _ _ rfl i_Ck ⟨t_Ck, t_Ck_ok, n_Ck⟩
  | 2, _ => exact key _ _ _ rfl i_Co ⟨t_Co, t_Co_ok, n_Co⟩
  | 3, _ => exact key _ _ _ rfl i_Ju ⟨t_Ju, t_Ju_ok, n_Ju⟩
  | 4, _ => exact key _ _ _ rfl i_Ma ⟨t_Ma, t_Ma_ok, n_Ma⟩
  | 5, _ => exact key _ _ _ rfl i_Me ⟨t_Me, t_Me_ok, n_Me⟩
  | 6, _ => exact key _ _ _ rfl i_No ⟨t_No, t_No_ok, n_No⟩
  | 7, _ => exact key _ _ _ rfl i_Pa ⟨t_Pa, t_Pa_ok, n_Pa⟩
  | 8, _ => exact key _ _ _ rfl i_Re ⟨t_Re, t_Re_ok, n_Re⟩
  | 9, _ => exact key _ _ _ rfl i_Ta ⟨t_Ta, t_Ta_ok, n_Ta⟩
  | 10, _ => exact key _ _ _ rfl i_Wr ⟨t_Wr, t_Wr_ok, n_Wr⟩
  | 11, _ => exact key _ _ _ rfl i_Fb ⟨t_Fb, t_Fb_ok, n_Fb⟩
  | 12, _ => exact key _ _ _ rfl i_Rm ⟨t_Rm, t_Rm_ok, n_Rm⟩
  | _ + 13, h => exact absurd h (by simp [d_fN, d_CL, c_nth])
