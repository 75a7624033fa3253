set_option maxHeartbeats 8000000 in
set_option maxRecDepth 100000 in
/-- the claim's walk out of the pure invariant -/
theorem law_start {Inv : Nat → c_S → Prop} (hOK : p_OK Inv) {p : Program} {e : Env} {s : State} {m : MethodId} {below : List Frame} {meth : Method} {c : Code} (l : Launch) {b L : Nat} {xs : Nat → Int32} (hL : L ≤ 3584) (C0 : lw_At p s m meth c b L xs) : W p l e room_1 s m #[Value.ref b] below meth c s.heap [] 0 0 (lw_Z below #[Value.ref b] s) (entryFrame m ([Value.ref b] : List Value).toArray 4) := by
  obtain ⟨hx, hb, hr, hml, hown, hts9, hX, hbl, hlocks, hgv⟩ := id C0
  have hts : ∀ w ∈ lw_g, w.before #[Value.ref b] s = true := fun w hw => hts9 w (List.mem_filter.mp hw).1
  have hnw : c_NW s := fun w hw hn => by
    have h1 := hts9 w hw
    cases w <;> first | (cases hn; done) | exact va_Nw.of rfl h1
  have hA : ∀ q : Nat, s.heap.size ≤ q → (fun q : Nat => s.heap.size ≤ q) q := fun _ h => h
  have hbA : ¬ (fun q : Nat => s.heap.size ≤ q) b := Nat.not_le.mpr hbl
  obtain ⟨c0, iS0, hKn0⟩ := u_known (C := R_Ce) (T := F_Ce) (N := 6) (n := 6) hts9 i_Ce (hts _ (lw_g_of (List.mem_of_getElem? (i := 239) (by decide +kernel)) rfl))
  obtain ⟨c1, iS1, hKn1⟩ := u_known (C := R_Ck) (T := F_Ck) (N := 8) (n := 8) hts9 i_Ck (hts _ (lw_g_of (List.mem_of_getElem? (i := 395) (by decide +kernel)) rfl))
  obtain ⟨c2, iS2, hKn2⟩ := u_known (C := R_Co) (T := F_Co) (N := 8) (n := 8) hts9 i_Co (hts _ (lw_g_of (List.mem_of_getElem? (i := 192) (by decide +kernel)) rfl))
  obtain ⟨c3, iS3, hKn3⟩ := u_known (C := R_Ju) (T := F_Ju) (N := 9) (n := 9) hts9 i_Ju (hts _ (lw_g_of (List.mem_of_getElem? (i := 361) (by decide +kernel)) rfl))
  obtain ⟨c4, iS4, hKn4⟩ := u_known (C := R_Ma) (T := F_Ma) (N := 8) (n := 8) hts9 i_Ma (hts _ (lw_g_of (List.mem_of_getElem? (i := 330) (by decide +kernel)) rfl))
  obtain ⟨c5, iS5, hKn5⟩ := u_known (C := R_Me) (T := F_Me) (N := 3) (n := 3) hts9 i_Me (hts _ (lw_g_of (List.mem_of_getElem? (i := 223) (by decide +kernel)) rfl))
  obtain ⟨c6, iS6, hKn6⟩ := u_known (C := R_No) (T := F_No) (N := 8) (n := 8) hts9 i_No (hts _ (lw_g_of (List.mem_of_getElem? (i := 160) (by decide +kernel)) rfl))
  obtain ⟨c7, iS7, hKn7⟩ := u_known (C := R_Pa) (T := F_Pa) (N := 5) (n := 5) hts9 i_Pa (hts _ (lw_g_of (List.mem_of_getElem? (i := 265) (by decide +kernel)) rfl))
  obtain ⟨c8, iS8, hKn8⟩ := u_known (C := R_Re) (T := F_Re) (N := 12) (n := 12) hts9 i_Re (hts _ (lw_g_of (List.mem_of_getElem? (i := 287) (by decide +kernel)) rfl))
  obtain ⟨c9, iS9, hKn9⟩ := u_known (C := R_Ta) (T := F_Ta) (N := 5) (n := 5) hts9 i_Ta (hts _ (lw_g_of (List.mem_of_getElem? (i := 137) (by decide +kernel)) rfl))
  obtain ⟨c10, iS10, hKn10⟩ := u_known (C := R_Wr) (T := F_Wr) (N := 7) (n := 7) hts9 i_Wr (hts _ (lw_g_of (List.mem_of_getElem? (i := 426) (by decide +kernel)) rfl))
  obtain ⟨c11, iS11, hKn11⟩ := u_known (C := R_Fb) (T := F_Fb) (N := 10) (n := 10) hts9 i_Fb (hts _ (lw_g_of (List.mem_of_getElem? (i := 129) (by decide +kernel)) rfl))
  obtain ⟨c12, iS12, hKn12⟩ := u_known (C := R_Rm) (T := F_Rm) (N := 71) (n := 71) hts9 i_Rm (hts _ (lw_g_of (List.mem_of_getElem? (i := 1176) (by decide +kernel)) rfl))
  obtain ⟨D, hKc⟩ : ∃ D : va_G, ∀ (k : Nat) (q : vw_C), d_CL[k]? = some q → u_Kn s q.1 q.2.1 q.2.2 (D.1 k) (D.2 k) := by
    refine ⟨(fun k => match k with
      | 0 => c0
      | 1 => c1
      | 2 => c2
      | 3 => c3
      | 4 => c4
      | 5 => c5
      | 6 => c6
      | 7 => c7
      | 8 => c8
      | 9 => c9
      | 10 => c10
      | 11 => c11
      | 12 => c12
      | _ => c0, fun k => match k with
      | 0 => iS0
      | 1 => iS1
      | 2 => iS2
      | 3 => iS3
      | 4 => iS4
      | 5 => iS5
      | 6 => iS6
      | 7 => iS7
      | 8 => iS8
      | 9 => iS9
      | 10 => iS10
      | 11 => iS11
      | 12 => iS12
      | _ => iS0), ?_⟩
    intro k q hq
    match k, hq with
    | 0, hq => cases hq; exact hKn0
    | 1, hq => cases hq; exact hKn1
    | 2, hq => cases hq; exact hKn2
    | 3, hq => cases hq; exact hKn3
    | 4, hq => cases hq; exact hKn4
    | 5, hq => cases hq; exact hKn5
    | 6, hq => cases hq; exact hKn6
    | 7, hq => cases hq; exact hKn7
    | 8, hq => cases hq; exact hKn8
    | 9, hq => cases hq; exact hKn9
    | 10, hq => cases hq; exact hKn10
    | 11, hq => cases hq; exact hKn11
    | 12, hq => cases hq; exact hKn12
    | k + 13, hq => simp [d_CL] at hq
  have hS : va_S (fun q : Nat => s.heap.size ≤ q) s.heap s.heap [] := va_S.rf
  have hK : va_K D d_CL [] s := ⟨hKc, fun k q h => by simp at h⟩
  have hP : va_P D d_CL [] s.heap := fun k q h => by simp at h
  have hD : va_D (fun q : Nat => s.heap.size ≤ q) [] := ⟨fun i j p q h => by simp at h, fun k q h => by simp at h⟩
  have hl := lv_entry ([.ref b]) (n := 4) (Nat.le_of_ble_eq_true rfl)
  rw [lg_entry_eq]
  generalize (lg_sl ([.ref b]) ++ List.replicate (4 - (lg_sl ([.ref b])).length) Slot.unset).toArray = ls at hl ⊢
  have hl : lv_has ls 4 [(0, .ref b)] := hl
  refine va_new (ci := 11) (fs := [.null, .null, .null, .null, .null, .null, .null, .null, .null, .null]) (C := R_Fb) (T := F_Fb) (N := 10) hx hb hts g_Fb t_Fb t_Fb_ok hown (hts _ (lw_g_of (List.mem_of_getElem? (i := 128) (by decide +kernel)) rfl)) (hts _ (lw_g_of (List.mem_of_getElem? (i := 129) (by decide +kernel)) rfl)) (hts _ (lw_g_of (List.mem_of_getElem? (i := 114) (by decide +kernel)) rfl)) hK hP hD hS hA rfl (fun j hj => (match j, hj with | 0, _ => rfl | 1, _ => rfl | 2, _ => rfl | 3, _ => rfl | 4, _ => rfl | 5, _ => rfl | 6, _ => rfl | 7, _ => rfl | 8, _ => rfl | 9, _ => rfl | _ + 10, h => absurd h (by omega))) (Nat.le_of_ble_eq_true rfl) (Nat.le_of_ble_eq_true rfl) (show decode code 0 = .ok (.new 7, 3) by decide +kernel) (fun qx H hP hD hS => ?_)
  have hP : va_P D d_CL [(qx, .inr (11, [.null, .null, .null, .null, .null, .null, .null, .null, .null, .null]))] H := hP
  have hD : va_D (fun q : Nat => s.heap.size ≤ q) [(qx, .inr (11, [.null, .null, .null, .null, .null, .null, .null, .null, .null, .null]))] := hD
  refine W.widen (k := 1) (n := 10) (Nat.le_of_ble_eq_true rfl) (Nat.le_of_ble_eq_true rfl) ?_
  refine lv_dup hx hb (show decode code 3 = .ok (.dup, 1) by decide +kernel) rfl ?_
  have hPc := hP.sub (ws' := [(qx, .inr (11, [.null, .null, .null, .null, .null, .null, .null, .null, .null, .null]))]) [0] rfl
  have hDc := hD.sub (ws' := [(qx, .inr (11, [.null, .null, .null, .null, .null, .null, .null, .null, .null, .null]))]) [0] (by decide) rfl
  have hKc := hK.sub (tys' := []) [] rfl
  have hFc := va_free (wc := [(qx, .inr (11, [.null, .null, .null, .null, .null, .null, .null, .null, .null, .null]))]) hD hS hA [0] rfl
  refine va_callv (va_runI (As := []) (rest := [.ref qx]) ⟨hx, hb, hml, hown, hts⟩ (c_Fb_init l D qx H.size) (cwI 0 hts (c_goodcons (show Cond.code ⟨R_Fb, "<init>", "()V"⟩ prog_1_method_1_code 2 none ∈ lw_tbl from List.mem_of_getElem? (i := 132) rfl)) rfl rfl rfl (hts _ (lw_g_of (List.mem_of_getElem? (i := 114) (by decide +kernel)) rfl)) (hts _ (lw_g_of (List.mem_of_getElem? (i := 130) (by decide +kernel)) rfl)) (hts _ (lw_g_of (List.mem_of_getElem? (i := 131) (by decide +kernel)) rfl)) rfl (by decide +kernel) ⟨Nat.le_of_ble_eq_true rfl, Nat.le_of_ble_eq_true rfl⟩) ⟨fun a U g mk q => by obtain ⟨q0, q1, qP, qK, qD, qN⟩ := q; exact ⟨q0, q1, qP, va_K.moved (u := U) (U := U.calling g mk a) (Vm.Alike.refl U.vm) qK, qD, qN.calling⟩, fun U hU hW => ⟨rfl, by rw [hU], by rw [hU]; exact hPc, va_K.moved hW.alike hKc, hDc.weaken (fun _ _ _ _ => trivial), hnw.warm hW⟩⟩ rfl rfl hl.1 rfl (lv_room (Nat.le_of_ble_eq_true rfl)) (show decode code 4 = .ok (.invokespecial 9, 3) by decide +kernel) ⟨Nat.le_of_ble_eq_true rfl, Nat.le_of_ble_eq_true rfl⟩) hS (fun q _ h => hFc q h) hFc (fun u t H1 locs ht hvm hqx hB hz1 hk1 hS => ?_)
  obtain ⟨hP1, hK1, hD1⟩ := hB
  rw [ht] at hP1
  have hK1 := va_K.moved hvm.symm hK1
  obtain ⟨hP, hD⟩ := va_join (wr := []) (w1 := c_wl u.1 u.2 d_S0 0 d_CTA) hP hD [0] [] rfl rfl (by decide) (by decide) hk1 hFc hP1 hD1
  have hK := (hK.sub (tys' := []) [] rfl).app hK1
  generalize H1 = H at hP hS ⊢
  have hP : va_P D d_CL (c_wl u.1 u.2 d_S0 0 d_CTA) H := hP
  have hD : va_D (fun q : Nat => s.heap.size ≤ q) (c_wl u.1 u.2 d_S0 0 d_CTA) := hD
  have hK : va_K D d_CL (c_tl u.2 0 d_CTA) s := hK
  refine W.widen (k := 34) (n := 230541) (Nat.le_of_ble_eq_true rfl) (Nat.le_of_ble_eq_true rfl) ?_
  refine lv_astore_n (lv' := [(1, .ref qx), (0, .ref b)]) hx hb (show decode code 7 = .ok (.astore_n 1, 1) by decide +kernel) rfl hl (by decide) rfl (fun ls hl => ?_)
  refine va_new (ci := 12) (fs := [.int 0, .null, .int 0, .int 0, .null, .null, .null, .null, .int 0, .int 0, .null, .null, .null, .null, .null, .null, .int 0, .int 0, .int 0, .int 0, .null, .int 0, .null, .null, .null, .null, .null, .null, .null, .null, .int 0, .null, .null, .int 0, .null, .null, .int 0, .null, .null, .null, .int 0, .int 0, .int 0, .int 0, .int 0, .int 0, .int 0, .int 0, .int 0, .null, .null, .int 0, .int 0, .int 0, .int 0, .int 0, .null, .null, .null, .int 0, .int 0, .int 0, .int 0, .null, .int 0, .int 0, .int 0, .null, .int 0, .null, .int 0]) (C := R_Rm) (T := F_Rm) (N := 71) hx hb hts g_Rm t_Rm t_Rm_ok hown (hts _ (lw_g_of (List.mem_of_getElem? (i := 1175) (by decide +kernel)) rfl)) (hts _ (lw_g_of (List.mem_of_getElem? (i := 1176) (by decide +kernel)) rfl)) (hts _ (lw_g_of (List.mem_of_getElem? (i := 126) (by decide +kernel)) rfl)) hK hP hD hS hA rfl (fun j hj => (match j, hj with | 0, _ => rfl | 1, _ => rfl | 2, _ => rfl | 3, _ => rfl | 4, _ => rfl | 5, _ => rfl | 6, _ => rfl | 7, _ => rfl | 8, _ => rfl | 9, _ => rfl | 10, _ => rfl | 11, _ => rfl | 12, _ => rfl | 13, _ => rfl | 14, _ => rfl | 15, _ => rfl | 16, _ => rfl | 17, _ => rfl | 18, _ => rfl | 19, _ => rfl | 20, _ => rfl | 21, _ => rfl | 22, _ => rfl | 23, _ => rfl | 24, _ => rfl | 25, _ => rfl | 26, _ => rfl | 27, _ => rfl | 28, _ => rfl | 29, _ => rfl | 30, _ => rfl | 31, _ => rfl | 32, _ => rfl | 33, _ => rfl | 34, _ => rfl | 35, _ => rfl | 36, _ => rfl | 37, _ => rfl | 38, _ => rfl | 39, _ => rfl | 40, _ => rfl | 41, _ => rfl | 42, _ => rfl | 43, _ => rfl | 44, _ => rfl | 45, _ => rfl | 46, _ => rfl | 47, _ => rfl | 48, _ => rfl | 49, _ => rfl | 50, _ => rfl | 51, _ => rfl | 52, _ => rfl | 53, _ => rfl | 54, _ => rfl | 55, _ => rfl | 56, _ => rfl | 57, _ => rfl | 58, _ => rfl | 59, _ => rfl | 60, _ => rfl | 61, _ => rfl | 62, _ => rfl | 63, _ => rfl | 64, _ => rfl | 65, _ => rfl | 66, _ => rfl | 67, _ => rfl | 68, _ => rfl | 69, _ => rfl | 70, _ => rfl | _ + 71, h => absurd h (by omega))) (Nat.le_of_ble_eq_true rfl) (Nat.le_of_ble_eq_true rfl) (show decode code 8 = .ok (.new 10, 3) by decide +kernel) (fun qm H hP hD hS => ?_)
  refine W.widen (k := 35) (n := 230612) (Nat.le_of_ble_eq_true rfl) (Nat.le_of_ble_eq_true rfl) ?_
  refine lv_dup hx hb (show decode code 11 = .ok (.dup, 1) by decide +kernel) rfl ?_
  have hPc := hP.sub (ws' := [(qm, .inr (12, [.int 0, .null, .int 0, .int 0, .null, .null, .null, .null, .int 0, .int 0, .null, .null, .null, .null, .null, .null, .int 0, .int 0, .int 0, .int 0, .null, .int 0, .null, .null, .null, .null, .null, .null, .null, .null, .int 0, .null, .null, .int 0, .null, .null, .int 0, .null, .null, .null, .int 0, .int 0, .int 0, .int 0, .int 0, .int 0, .int 0, .int 0, .int 0, .null, .null, .int 0, .int 0, .int 0, .int 0, .int 0, .null, .null, .null, .int 0, .int 0, .int 0, .int 0, .null, .int 0, .int 0, .int 0, .null, .int 0, .null, .int 0]))]) [34] rfl
  have hDc := hD.sub (ws' := [(qm, .inr (12, [.int 0, .null, .int 0, .int 0, .null, .null, .null, .null, .int 0, .int 0, .null, .null, .null, .null, .null, .null, .int 0, .int 0, .int 0, .int 0, .null, .int 0, .null, .null, .null, .null, .null, .null, .null, .null, .int 0, .null, .null, .int 0, .null, .null, .int 0, .null, .null, .null, .int 0, .int 0, .int 0, .int 0, .int 0, .int 0, .int 0, .int 0, .int 0, .null, .null, .int 0, .int 0, .int 0, .int 0, .int 0, .null, .null, .null, .int 0, .int 0, .int 0, .int 0, .null, .int 0, .int 0, .int 0, .null, .int 0, .null, .int 0]))]) [34] (by decide) rfl
  have hKc := hK.sub (tys' := []) [] rfl
  have hFc := va_free (wc := [(qm, .inr (12, [.int 0, .null, .int 0, .int 0, .null, .null, .null, .null, .int 0, .int 0, .null, .null, .null, .null, .null, .null, .int 0, .int 0, .int 0, .int 0, .null, .int 0, .null, .null, .null, .null, .null, .null, .null, .null, .int 0, .null, .null, .int 0, .null, .null, .int 0, .null, .null, .null, .int 0, .int 0, .int 0, .int 0, .int 0, .int 0, .int 0, .int 0, .int 0, .null, .null, .int 0, .int 0, .int 0, .int 0, .int 0, .null, .null, .null, .int 0, .int 0, .int 0, .int 0, .null, .int 0, .int 0, .int 0, .null, .int 0, .null, .int 0]))]) hD hS hA [34] rfl
  refine va_callv (va_runI (As := []) (rest := [.ref qm]) ⟨hx, hb, hml, hown, hts⟩ (c_Rm_init l D qm H.size) (cwI 0 hts (c_goodcons (show Cond.code ⟨R_Rm, "<init>", "()V"⟩ prog_14_method_1_code 1 none ∈ lw_tbl from List.mem_of_getElem? (i := 1179) rfl)) rfl rfl rfl (hts _ (lw_g_of (List.mem_of_getElem? (i := 126) (by decide +kernel)) rfl)) (hts _ (lw_g_of (List.mem_of_getElem? (i := 1177) (by decide +kernel)) rfl)) (hts _ (lw_g_of (List.mem_of_getElem? (i := 1178) (by decide +kernel)) rfl)) rfl (by decide +kernel) ⟨Nat.le_of_ble_eq_true rfl, Nat.le_of_ble_eq_true rfl⟩) ⟨fun a U g mk q => by obtain ⟨q0, q1, qP, qK, qD⟩ := q; exact ⟨q0, q1, qP, va_K.moved (u := U) (U := U.calling g mk a) (Vm.Alike.refl U.vm) qK, qD⟩, fun U hU hW => ⟨rfl, by rw [hU], by rw [hU]; exact hPc, va_K.moved hW.alike hKc, hDc.weaken (fun _ _ _ _ => trivial)⟩⟩ rfl rfl hl.1 rfl (lv_room (Nat.le_of_ble_eq_true rfl)) (show decode code 12 = .ok (.invokespecial 12, 3) by decide +kernel) ⟨Nat.le_of_ble_eq_true rfl, Nat.le_of_ble_eq_true rfl⟩) hS (fun q _ h => hFc q h) hFc (fun v t H1 locs ht hvm hw hB hz1 hk1 hS => ?_)
  obtain ⟨hP1, hK1, hD1⟩ := hB
  rw [ht] at hP1
  have hK1 := va_K.moved hvm.symm hK1
  obtain ⟨hP, hD⟩ := va_join (wr := c_wl u.1 u.2 d_S0 0 d_CTA) (w1 := w_Rm qm v) hP hD [34] [0, 1, 2, 3, 4, 5, 6, 7, 8, 9, 10, 11, 12, 13, 14, 15, 16, 17, 18, 19, 20, 21, 22, 23, 24, 25, 26, 27, 28, 29, 30, 31, 32, 33] rfl rfl (by decide) (by decide) hk1 hFc hP1 hD1
  have hK := hK.app hK1
  generalize H1 = H at hP hS ⊢
  refine W.widen (k := 70) (n := 3712066) (Nat.le_of_ble_eq_true rfl) (Nat.le_of_ble_eq_true rfl) ?_
  refine lv_astore_n (lv' := [(2, .ref qm), (1, .ref qx), (0, .ref b)]) hx hb (show decode code 15 = .ok (.astore_n 2, 1) by decide +kernel) rfl hl (by decide) rfl (fun ls hl => ?_)
  refine lv_iconst (v := 0) hx hb (show decode code 16 = .ok (.iconst 0, 1) by decide +kernel) (by decide) ?_
  refine lv_istore_n (lv' := [(3, .int 0), (2, .ref qm), (1, .ref qx), (0, .ref b)]) hx hb (show decode code 17 = .ok (.istore_n 3, 1) by decide +kernel) rfl hl (by decide) rfl (fun ls hl => ?_)
  obtain ⟨a, cA, ea, eP, eK⟩ : ∃ (a : Nat → Nat) (cA : Nat → ClassId), (a 0 = u.1 0 ∧ a 34 = qm) ∧ c_wl u.1 u.2 d_S0 0 d_CTA ++ w_Rm qm v = c_wld a cA d_S0 ∧ c_tl u.2 0 d_CTA ++ ty_Rm v = c_tys cA := by
    refine ⟨fun k => (match k with
      | 0 => u.1 0
      | 1 => u.1 1
      | 2 => u.1 2
      | 3 => u.1 3
      | 4 => u.1 4
      | 5 => u.1 5
      | 6 => u.1 6
      | 7 => u.1 7
      | 8 => u.1 8
      | 9 => u.1 9
      | 10 => u.1 10
      | 11 => u.1 11
      | 12 => u.1 12
      | 13 => u.1 13
      | 14 => u.1 14
      | 15 => u.1 15
      | 16 => u.1 16
      | 17 => u.1 17
      | 18 => u.1 18
      | 19 => u.1 19
      | 20 => u.1 20
      | 21 => u.1 21
      | 22 => u.1 22
      | 23 => u.1 23
      | 24 => u.1 24
      | 25 => u.1 25
      | 26 => u.1 26
      | 27 => u.1 27
      | 28 => u.1 28
      | 29 => u.1 29
      | 30 => u.1 30
      | 31 => u.1 31
      | 32 => u.1 32
      | 33 => u.1 33
      | 34 => qm
      | 35 => v.1 0
      | 36 => v.1 1
      | 37 => v.1 2
      | 38 => v.1 3
      | 39 => v.1 4
      | 40 => v.1 5
      | 41 => v.1 6
      | 42 => v.1 7
      | 43 => v.1 8
      | 44 => v.1 9
      | 45 => v.1 10
      | 46 => v.1 11
      | 47 => v.1 12
      | 48 => v.1 13
      | 49 => v.1 14
      | 50 => v.1 15
      | 51 => v.1 16
      | 52 => v.1 17
      | 53 => v.1 18
      | 54 => v.1 19
      | 55 => v.1 20
      | 56 => v.1 21
      | 57 => v.1 22
      | 58 => v.1 23
      | 59 => v.1 24
      | 60 => v.1 25
      | 61 => v.1 26
      | 62 => v.1 27
      | 63 => v.1 28
      | 64 => v.1 29
      | 65 => v.1 30
      | 66 => v.1 31
      | 67 => v.1 32
      | 68 => v.1 33
      | 69 => v.1 34
      | _ => 0), fun k => (match k with
      | 2 => u.2 2
      | 4 => u.2 4
      | 5 => u.2 5
      | 6 => u.2 6
      | 7 => u.2 7
      | 8 => u.2 8
      | 9 => u.2 9
      | 10 => u.2 10
      | 12 => u.2 12
      | 13 => u.2 13
      | 14 => u.2 14
      | 15 => u.2 15
      | 16 => u.2 16
      | 17 => u.2 17
      | 20 => u.2 20
      | 21 => u.2 21
      | 22 => u.2 22
      | 23 => u.2 23
      | 25 => u.2 25
      | 26 => u.2 26
      | 28 => u.2 28
      | 29 => u.2 29
      | 35 => v.2 0
      | 36 => v.2 1
      | 37 => v.2 2
      | 38 => v.2 3
      | 39 => v.2 4
      | 40 => v.2 5
      | 41 => v.2 6
      | 42 => v.2 7
      | 43 => v.2 8
      | 44 => v.2 9
      | 45 => v.2 10
      | 46 => v.2 11
      | 47 => v.2 12
      | 48 => v.2 13
      | 49 => v.2 14
      | 50 => v.2 15
      | 51 => v.2 16
      | 52 => v.2 17
      | 53 => v.2 18
      | 54 => v.2 19
      | 55 => v.2 20
      | 56 => v.2 21
      | 57 => v.2 22
      | 58 => v.2 23
      | 59 => v.2 24
      | 60 => v.2 25
      | 61 => v.2 26
      | 62 => v.2 27
      | 63 => v.2 28
      | 64 => v.2 29
      | 65 => v.2 30
      | 66 => v.2 31
      | 67 => v.2 32
      | 68 => v.2 33
      | 69 => v.2 34
      | _ => D.1 0), ⟨rfl, rfl⟩, rfl, rfl⟩
  rw [eP] at hP hD
  rw [eK] at hK
  have hin : c_inj a := fun i j hi hj h9 => by
    rw [← d_CT_len] at hi hj
    obtain ⟨q1, h1⟩ : ∃ q1, c_nth d_CT i = some q1 := by rw [c_nth_eq]; exact ⟨_, List.getElem?_eq_getElem hi⟩
    obtain ⟨q2, h2⟩ : ∃ q2, c_nth d_CT j = some q2 := by rw [c_nth_eq]; exact ⟨_, List.getElem?_eq_getElem hj⟩
    exact hD.1 i j _ _ (by rw [c_wld_get, h1]; rfl) (by rw [c_wld_get, h2]; rfl) h9
  have ha : ∀ k, k < 70 → s.heap.size ≤ a k := fun k hk => by
    rw [← d_CT_len] at hk
    obtain ⟨q1, h1⟩ : ∃ q1, c_nth d_CT k = some q1 := by rw [c_nth_eq]; exact ⟨_, List.getElem?_eq_getElem hk⟩
    exact hD.2 k _ (by rw [c_wld_get, h1]; rfl)
  have hl : lv_has ls 4 [(3, .int 0), (2, .ref (a 34)), (1, .ref (a 0)), (0, .ref b)] := by
    rw [ea.1, ea.2, hqx]; exact hl
  exact law_loop hx hb hml hown hts hnw hK hin ha hX hbl hr hlocks hOK hL (L + 8) 0 0 0 d_S0 H locs ls (by omega) rfl nI_0.symm (by omega) hOK.1 hl hP hS
