theorem v_S.hd {C1 L1 B1 W t1 S1 q C L B t S : Nat} {s σ : c_S} (hv : v_S C1 L1 B1 W t1 S1 q s) (ex : w_ex C1 L1 B1 W s σ) (hu : u_S C L B t S σ) : v_S C L B W t S q σ :=
  ⟨hu, by rw [ex.1.2.1 40 rfl]; exact hv.2.1, by rw [ex.1.2.1 53 rfl]; exact hv.2.2.1, hv.2.2.2⟩
theorem w_negI {w : Nat} (hw : w < 24000) : (- -nI (w + 1)) - 1 = nI w := by
  apply Int32.toInt_inj.mp
  rw [Int32.toInt_sub, Int32.toInt_neg, Int32.toInt_neg, nI_toInt (show w + 1 < 2 ^ 31 by omega), nI_toInt (show w < 2 ^ 31 by omega), show (1 : Int32).toInt = 1 from by decide, Int.bmod_def, Int.bmod_def, Int.bmod_def]
  omega
theorem w_nneq {c w : Nat} (hc : c < 1000) (hw : w < 24000) : nI c ≠ -nI (w + 1) := fun h => by
  have h1 := w_neg hw
  rw [← h] at h1
  exact nI_pos (by omega) h1
theorem w_ninj {w w' : Nat} (hw : w < 24000) (hw' : w' < 24000) (h : -nI (w + 1) = -nI (w' + 1)) : w = w' := by
  have h1 := w_negI hw
  rw [h, w_negI hw'] at h1
  exact ((nI_eq (by omega) (by omega)).mp h1).symm
/-- two heads alike want the same -/
theorem w_H_det {κ : Nat → Std.Format} {nc C L C' L' W : Nat} (hnc : nc ≤ 100) (hW : W ≤ 24000) {s σ : c_S} (ag : w_ag C L W s σ) {x : Int32} {τ τ' : Std.Format} (h : w_H s κ nc C L W x τ) (h' : w_H σ κ nc C' L' W x τ') : τ = τ' := by
  rcases h with ⟨c, e1, e2, e3⟩ | ⟨w, t, Γ, k, kk, e1, e2, e3, e4, e5⟩
  · rcases h' with ⟨c', f1, f2, f3⟩ | ⟨w', t', Γ', k', kk', f1, f2, f3, f4, f5⟩
    · rw [e1] at f1
      have : c = c' := (nI_eq (by omega) (by omega)).mp f1
      subst this
      rw [← e3, ← f3]
    · rw [e1] at f1; exact absurd f1 (w_nneq (by omega) (by omega))
  · rcases h' with ⟨c', f1, f2, f3⟩ | ⟨w', t', Γ', k', kk', f1, f2, f3, f4, f5⟩
    · rw [f1] at e1; exact absurd e1 (w_nneq (by omega) (by omega))
    · rw [e1] at f1
      have : w = w' := w_ninj (by omega) (by omega) f1
      subst this
      rw [(ag.2.2.2 w e2).1, e3] at f3
      have ht : t < 120000 := (o_F_0 e4).1
      have ht' : t' < 120000 := (o_F_0 f4).1
      have : t = t' := (nI_eq (by omega) (by omega)).mp f3
      subst this
      exact o_F_det hnc kk kk' 37 37 Γ Γ' t τ τ' (o_F_ag ag.1 kk 37 Γ t τ e4) f4
