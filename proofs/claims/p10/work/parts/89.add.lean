/-! ===== the reference: add ===== -/
theorem lyQ_z {z y : Int64} {C : XS9} {r : Nat} {s : Nat → Int32} (hr : r ≠ 5000) : lyQ z C r s = lyQ y C r s := by
  unfold lyQ
  by_cases u : r < 5010
  · rw [if_pos u, if_pos u]
    split <;> first | rfl | (exfalso; omega)
  · rw [if_neg u, if_neg u]
theorem pm_sum {z y : Int64} {σ : XS9} {h : XH} : xx_up (setM z σ h) 5000 (20, 17, updV (fun k => match k with | 8 => .ref 5001 | 9 => .ref 5002 | 10 => .ref 5003 | 11 => .ref 5004 | 12 => (if σ 7000 25 = 0 then .null else .ref 7000) | 13 => .ref 5005 | 14 => .ref 5006 | 15 => .ref 5007 | 16 => .long z | k => .int ((σ 5000) k)) 16 (.long y)) = setM y σ h := by
  funext q
  unfold xx_up
  by_cases a : q = 5000
  · rw [if_pos a, a, lm_mod]
    congr 3
    funext k
    unfold updV
    by_cases e : k = 16
    · subst e; rfl
    · rw [if_neg e]
      match k, e with
      | 0, _ | 1, _ | 2, _ | 3, _ | 4, _ | 5, _ | 6, _ | 7, _ | 8, _ | 9, _ | 10, _ | 11, _ | 12, _ | 13, _ | 14, _ | 15, _ => rfl
      | 16, e => exact absurd rfl e
      | _ + 17, _ => rfl
  · rw [if_neg a]
    unfold setM
    rw [lyQ_z (z := z) (y := y) a]
theorem ct_X14_add {l : Launch} {h : XH} (hl : l.stackTraces = false) {z : Int64} {σ : XS9} {v : Int64} : XEx l m_X14_add 0 0 0 [.ref 5000, .long v] (setM z σ h) none (setM ((z * 31) + v) σ h) := by
  refine XMet.of hl rfl rfl (Nat.le_of_ble_eq_true rfl) (fun Y O hh hQ => ?_)
  show SW Y 0 0 (setM z σ h) 0 [.ref 5000, .long v, xx_d] []
  refine sw_aload_n O (xx_dt dd_X14_add 0 rfl) rfl ?_
  refine sw_aload_n O (xx_dt dd_X14_add 1 rfl) rfl ?_
  refine sw_get (v := .long z) O (xx_dt dd_X14_add 2 rfl) cl_X14 fl_X14_407 (lm_mod (σ := σ)) (by decide) rfl ?_
  refine sw_ldc2 O ct_X14_411 (xx_dt dd_X14_add 3 rfl) ?_
  refine sw_lmul O (xx_dt dd_X14_add 4 rfl) ?_
  refine sw_lload_n O (xx_dt dd_X14_add 5 rfl) rfl ?_
  refine sw_ladd O (xx_dt dd_X14_add 6 rfl) ?_
  refine sw_put (h2 := setM ((z * 31) + v) σ h) O (xx_dt dd_X14_add 7 rfl) cl_X14 fl_X14_407 (lm_mod (σ := σ)) (by decide) (by omega) rfl (fun _ => ⟨rfl, rfl⟩) pm_sum ?_
  exact sw_ret O (xx_dt dd_X14_add 8 rfl) rfl (by rw [hQ]; exact ⟨rfl, rfl⟩)
