/-! ===== the reference: isSound, over what isSoundNow says ===== -/
def f_MisSound (σ : XS9) (v : Int32) : Int32 := v
def g_MisSound (σ : XS9) (v : Int32) : XS9 := u2 σ 5000 0 0
theorem ct_X14_isSound {l : Launch} {h : XH} (hl : l.stackTraces = false) {z : Int64} {σ : XS9} (hbs : xx_bs h) {v : Int32} (hv : v = 0 ∨ v = 1) (hs : XEx l m_X14_isSoundNow 12 495 8668 [.ref 5000] (setM z (u2 σ 5000 0 0) h) (some (.int v)) (setM z (u2 σ 5000 0 0) h))  : XEx l m_X14_isSound 13 495 8668 [.ref 5000] (setM z σ h) (some (.int (f_MisSound σ v))) (setM z (g_MisSound σ v) h) := by
  refine XMet.of hl rfl rfl (Nat.le_of_ble_eq_true rfl) (fun Y O hh hQ => ?_)
  show SW Y 495 8668 (setM z σ h) 0 [.ref 5000] []
  refine sw_aload_n O (xx_dt dd_X14_isSound 0 rfl) rfl ?_
  refine sw_iconst (x := 0) O (xx_dt dd_X14_isSound 1 rfl) (by decide) ?_
  refine sw_put (h2 := setM z (u2 σ 5000 0 0) h) O (xx_dt dd_X14_isSound 2 rfl) cl_X14 fl_X14_46 (lm_mod (σ := σ)) (by decide) (by omega) rfl (fun _ => ⟨rfl, rfl⟩) (pm_mod (σ := σ) (by omega)) ?_
  refine sw_aload_n O (xx_dt dd_X14_isSound 3 rfl) rfl ?_
  refine sw_callVx (as := []) (st := []) (st2 := [.int v]) O (hs) ce_X14_isSoundNow ml_X14_404 iv_X14_isSoundNow cl_X14 rfl (lm_mod (σ := u2 σ 5000 0 0)) (xx_dt dd_X14_isSound 4 rfl) (by decide) rfl rfl (Nat.le_of_ble_eq_true rfl) rfl ?_
  exact sw_iret O (xx_dt dd_X14_isSound 5 rfl) rfl (xx_bool hv) (by rw [hQ]; exact ⟨by unfold f_MisSound; rfl, by unfold g_MisSound; rfl⟩)
