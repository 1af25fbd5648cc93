section
/-! ===== the law's own methods ===== -/
def lw_ix : List String → String → Int32
  | [], _ => 0
  | a :: t, E => if E = a then 1 else 1 + lw_ix t E
def lw_k {α : Type} (hs : List String) (o : α ⊕ String) : Int32 := match o with | .inl _ => 0 | .inr E => lw_ix hs E
def lw_g (h2 : XH) (F : Nat → Value) (o : Int32 ⊕ String) (f : Int32 → Int64) : XH := match o with | .inl v => xx_up h2 4500 (14, 2, updV F 0 (.long (f v))) | .inr _ => h2
def lw_gs (h2 : XH) (F : Nat → Value) (o : Nat ⊕ String) : XH := match o with | .inl v => xx_up h2 4500 (14, 2, updV F 1 (.ref v)) | .inr _ => h2
def xor : Nat ⊕ String → XO | .inl x => .inl (some (.ref x)) | .inr E => .inr E
abbrev lw_B (v : Int32) : Int64 := if v = 0 then Int64.ofNat (0 : Fin 2) else Int64.ofNat (1 : Fin 2)
theorem lw_region {l : Launch} {h h2 : XH} (hl : l.stackTraces = false) {d9 k9 n9 : Nat} {p0 p1 p2 : Int32} {o : Int32 ⊕ String} {f0 F : Nat → Value} (hC : XEo l m_X7_region d9 k9 n9 [.ref 1000, .int p0, .int p1, .int p2] h (xoi o) h2) (h0 : h 1000 = some (13, 12, f0)) (hO : h2 4500 = some (14, 2, F)) (hE : ∀ E, o = .inr E → E = eIAE ∨ E = eISE) : XMetH l m_L_region hh_L_region (d9 + 1) k9 n9 [.ref 1000, .int p0, .int p1, .int p2, .ref 4500] h (fun o' g => o' = .inl (some (.int (lw_k [eIAE, eISE] o))) ∧ g = lw_g h2 F o Int32.toInt64) := by
  refine XMetH.of hl rfl rfl (Nat.le_of_ble_eq_true rfl) (fun E g q => by cases q.1) (fun Y O HT hh hQ => ?_)
  show SW Y k9 n9 h 0 [.ref 1000, .int p0, .int p1, .int p2, .ref 4500, xx_d] []
  refine sw_aload O (xx_dt dd_L_region 0 rfl) rfl ?_
  refine sw_aload_n O (xx_dt dd_L_region 1 rfl) rfl ?_
  refine sw_iload_n O (xx_dt dd_L_region 2 rfl) rfl ?_
  refine sw_iload_n O (xx_dt dd_L_region 3 rfl) rfl ?_
  refine sw_iload_n O (xx_dt dd_L_region 4 rfl) rfl ?_
  refine xx_wid (k' := 0 + k9) (n' := 0 + n9) (by omega) (by omega) (sw_callVc (hh := hh_L_region) (as := [.int p0, .int p1, .int p2]) (st := [.ref 4500]) (k := 0) (n := 0) O hC ce_X7_region ml_L_7 iv_X7_region cl_X7 rfl h0 (xx_dt dd_L_region 5 rfl) (Nat.le_refl _) rfl rfl (Nat.le_of_ble_eq_true rfl) (fun v h' q _ => ?_) HT (fun E h' q _ => ?_))
  · obtain ⟨q1, rfl⟩ := q
    cases o with
    | inr E => cases q1
    | inl w =>
      cases q1
      show SW Y 0 0 h' 9 [.ref 1000, .int p0, .int p1, .int p2, .ref 4500, xx_d] [.int w, .ref 4500]
      refine sw_i2l O (xx_dt dd_L_region 6 rfl) ?_
      refine sw_put (h2 := xx_up h' 4500 (14, 2, updV F 0 (.long (Int32.toInt64 w)))) O (xx_dt dd_L_region 7 rfl) cl_X8 fl_L_13 hO (by decide) (by omega) rfl (fun _ => ⟨rfl, rfl⟩) rfl ?_
      refine sw_goto (tgt := 24) O (xx_dt dd_L_region 8 rfl) (by decide) ?_
      refine sw_iconst (x := 0) O (xx_dt dd_L_region 15 rfl) (by decide) ?_
      exact sw_iret O (xx_dt dd_L_region 16 rfl) rfl rfl (by rw [hQ]; exact ⟨rfl, rfl⟩)
  · obtain ⟨q1, rfl⟩ := q
    cases o with
    | inl w => cases q1
    | inr E9 =>
      cases q1
      rcases hE _ rfl with rfl | rfl
      · refine ⟨16, ⟨[], ⟨0, 13, 16, 19⟩, [⟨0, 13, 20, 21⟩], rfl, fun z hz => absurd hz List.not_mem_nil, rfl, by decide, ck_L_19, ex_IAE, rfl⟩, ?_⟩
        refine .inl ⟨5, (xx_dt dd_L_region 9 rfl), by decide, ?_⟩
        show SW Y 0 0 h' 18 [.ref 1000, .int p0, .int p1, .int p2, .ref 4500, xx_d] []
        refine sw_iconst (x := 1) O (xx_dt dd_L_region 10 rfl) (by decide) ?_
        exact sw_iret O (xx_dt dd_L_region 11 rfl) rfl rfl (by rw [hQ]; exact ⟨rfl, rfl⟩)
      · refine ⟨20, ⟨[⟨0, 13, 16, 19⟩], ⟨0, 13, 20, 21⟩, [], rfl, fun z hz => by
          simp only [List.mem_cons, List.not_mem_nil, or_false] at hz
          rcases hz with rfl
          · exact ⟨by decide, _, ck_L_19, (.tail _ (.tail _ (.head _)))⟩, rfl, by decide, ck_L_21, ex_ISE, rfl⟩, ?_⟩
        refine .inl ⟨5, (xx_dt dd_L_region 12 rfl), by decide, ?_⟩
        show SW Y 0 0 h' 22 [.ref 1000, .int p0, .int p1, .int p2, .ref 4500, xx_d] []
        refine sw_iconst (x := 2) O (xx_dt dd_L_region 13 rfl) (by decide) ?_
        exact sw_iret O (xx_dt dd_L_region 14 rfl) rfl rfl (by rw [hQ]; exact ⟨rfl, rfl⟩)
theorem lw_border {l : Launch} {h h2 : XH} (hl : l.stackTraces = false) {d9 k9 n9 : Nat} {p0 p1 : Int32} {o : Int32 ⊕ String} {f0 F : Nat → Value} (hC : XEo l m_X7_border d9 k9 n9 [.ref 1000, .int p0, .int p1] h (xoi o) h2) (h0 : h 1000 = some (13, 12, f0)) (hO : h2 4500 = some (14, 2, F)) (hE : ∀ E, o = .inr E → E = eIOB ∨ E = eIAE ∨ E = eISE) : XMetH l m_L_border hh_L_border (d9 + 1) k9 n9 [.ref 1000, .int p0, .int p1, .ref 4500] h (fun o' g => o' = .inl (some (.int (lw_k [eIOB, eIAE, eISE] o))) ∧ g = lw_g h2 F o Int32.toInt64) := by
  refine XMetH.of hl rfl rfl (Nat.le_of_ble_eq_true rfl) (fun E g q => by cases q.1) (fun Y O HT hh hQ => ?_)
  show SW Y k9 n9 h 0 [.ref 1000, .int p0, .int p1, .ref 4500, xx_d] []
  refine sw_aload_n O (xx_dt dd_L_border 0 rfl) rfl ?_
  refine sw_aload_n O (xx_dt dd_L_border 1 rfl) rfl ?_
  refine sw_iload_n O (xx_dt dd_L_border 2 rfl) rfl ?_
  refine sw_iload_n O (xx_dt dd_L_border 3 rfl) rfl ?_
  refine xx_wid (k' := 0 + k9) (n' := 0 + n9) (by omega) (by omega) (sw_callVc (hh := hh_L_border) (as := [.int p0, .int p1]) (st := [.ref 4500]) (k := 0) (n := 0) O hC ce_X7_border ml_L_23 iv_X7_border cl_X7 rfl h0 (xx_dt dd_L_border 4 rfl) (Nat.le_refl _) rfl rfl (Nat.le_of_ble_eq_true rfl) (fun v h' q _ => ?_) HT (fun E h' q _ => ?_))
  · obtain ⟨q1, rfl⟩ := q
    cases o with
    | inr E => cases q1
    | inl w =>
      cases q1
      show SW Y 0 0 h' 7 [.ref 1000, .int p0, .int p1, .ref 4500, xx_d] [.int w, .ref 4500]
      refine sw_i2l O (xx_dt dd_L_border 5 rfl) ?_
      refine sw_put (h2 := xx_up h' 4500 (14, 2, updV F 0 (.long (Int32.toInt64 w)))) O (xx_dt dd_L_border 6 rfl) cl_X8 fl_L_13 hO (by decide) (by omega) rfl (fun _ => ⟨rfl, rfl⟩) rfl ?_
      refine sw_goto (tgt := 26) O (xx_dt dd_L_border 7 rfl) (by decide) ?_
      refine sw_iconst (x := 0) O (xx_dt dd_L_border 17 rfl) (by decide) ?_
      exact sw_iret O (xx_dt dd_L_border 18 rfl) rfl rfl (by rw [hQ]; exact ⟨rfl, rfl⟩)
  · obtain ⟨q1, rfl⟩ := q
    cases o with
    | inl w => cases q1
    | inr E9 =>
      cases q1
      rcases hE _ rfl with rfl | rfl | rfl
      · refine ⟨14, ⟨[], ⟨0, 11, 14, 27⟩, [⟨0, 11, 18, 19⟩, ⟨0, 11, 22, 21⟩], rfl, fun z hz => absurd hz List.not_mem_nil, rfl, by decide, ck_L_27, ex_IOB, rfl⟩, ?_⟩
        refine .inl ⟨4, (xx_dt dd_L_border 8 rfl), by decide, ?_⟩
        show SW Y 0 0 h' 16 [.ref 1000, .int p0, .int p1, .ref 4500, xx_d] []
        refine sw_iconst (x := 1) O (xx_dt dd_L_border 9 rfl) (by decide) ?_
        exact sw_iret O (xx_dt dd_L_border 10 rfl) rfl rfl (by rw [hQ]; exact ⟨rfl, rfl⟩)
      · refine ⟨18, ⟨[⟨0, 11, 14, 27⟩], ⟨0, 11, 18, 19⟩, [⟨0, 11, 22, 21⟩], rfl, fun z hz => by
          simp only [List.mem_cons, List.not_mem_nil, or_false] at hz
          rcases hz with rfl
          · exact ⟨by decide, _, ck_L_27, (.head _)⟩, rfl, by decide, ck_L_19, ex_IAE, rfl⟩, ?_⟩
        refine .inl ⟨4, (xx_dt dd_L_border 11 rfl), by decide, ?_⟩
        show SW Y 0 0 h' 20 [.ref 1000, .int p0, .int p1, .ref 4500, xx_d] []
        refine sw_iconst (x := 2) O (xx_dt dd_L_border 12 rfl) (by decide) ?_
        exact sw_iret O (xx_dt dd_L_border 13 rfl) rfl rfl (by rw [hQ]; exact ⟨rfl, rfl⟩)
      · refine ⟨22, ⟨[⟨0, 11, 14, 27⟩, ⟨0, 11, 18, 19⟩], ⟨0, 11, 22, 21⟩, [], rfl, fun z hz => by
          simp only [List.mem_cons, List.not_mem_nil, or_false] at hz
          rcases hz with rfl | rfl
          · exact ⟨by decide, _, ck_L_27, (.tail _ (.head _))⟩
          · exact ⟨by decide, _, ck_L_19, (.tail _ (.tail _ (.head _)))⟩, rfl, by decide, ck_L_21, ex_ISE, rfl⟩, ?_⟩
        refine .inl ⟨4, (xx_dt dd_L_border 14 rfl), by decide, ?_⟩
        show SW Y 0 0 h' 24 [.ref 1000, .int p0, .int p1, .ref 4500, xx_d] []
        refine sw_iconst (x := 3) O (xx_dt dd_L_border 15 rfl) (by decide) ?_
        exact sw_iret O (xx_dt dd_L_border 16 rfl) rfl rfl (by rw [hQ]; exact ⟨rfl, rfl⟩)
theorem lw_bidder {l : Launch} {h h2 : XH} (hl : l.stackTraces = false) {d9 k9 n9 : Nat} {p0 p1 p2 p3 : Int32} {o : Int32 ⊕ String} {f0 F : Nat → Value} (hC : XEo l m_X7_bidder d9 k9 n9 [.ref 1000, .int p0, .int p1, .int p2, .int p3] h (xoi o) h2) (h0 : h 1000 = some (13, 12, f0)) (hO : h2 4500 = some (14, 2, F)) (hE : ∀ E, o = .inr E → E = eIAE ∨ E = eISE) : XMetH l m_L_bidder hh_L_bidder (d9 + 1) k9 n9 [.ref 1000, .int p0, .int p1, .int p2, .int p3, .ref 4500] h (fun o' g => o' = .inl (some (.int (lw_k [eIAE, eISE] o))) ∧ g = lw_g h2 F o Int32.toInt64) := by
  refine XMetH.of hl rfl rfl (Nat.le_of_ble_eq_true rfl) (fun E g q => by cases q.1) (fun Y O HT hh hQ => ?_)
  show SW Y k9 n9 h 0 [.ref 1000, .int p0, .int p1, .int p2, .int p3, .ref 4500, xx_d] []
  refine sw_aload O (xx_dt dd_L_bidder 0 rfl) rfl ?_
  refine sw_aload_n O (xx_dt dd_L_bidder 1 rfl) rfl ?_
  refine sw_iload_n O (xx_dt dd_L_bidder 2 rfl) rfl ?_
  refine sw_iload_n O (xx_dt dd_L_bidder 3 rfl) rfl ?_
  refine sw_iload_n O (xx_dt dd_L_bidder 4 rfl) rfl ?_
  refine sw_iload O (xx_dt dd_L_bidder 5 rfl) rfl ?_
  refine xx_wid (k' := 0 + k9) (n' := 0 + n9) (by omega) (by omega) (sw_callVc (hh := hh_L_bidder) (as := [.int p0, .int p1, .int p2, .int p3]) (st := [.ref 4500]) (k := 0) (n := 0) O hC ce_X7_bidder ml_L_29 iv_X7_bidder cl_X7 rfl h0 (xx_dt dd_L_bidder 6 rfl) (Nat.le_refl _) rfl rfl (Nat.le_of_ble_eq_true rfl) (fun v h' q _ => ?_) HT (fun E h' q _ => ?_))
  · obtain ⟨q1, rfl⟩ := q
    cases o with
    | inr E => cases q1
    | inl w =>
      cases q1
      show SW Y 0 0 h' 11 [.ref 1000, .int p0, .int p1, .int p2, .int p3, .ref 4500, xx_d] [.int w, .ref 4500]
      refine sw_i2l O (xx_dt dd_L_bidder 7 rfl) ?_
      refine sw_put (h2 := xx_up h' 4500 (14, 2, updV F 0 (.long (Int32.toInt64 w)))) O (xx_dt dd_L_bidder 8 rfl) cl_X8 fl_L_13 hO (by decide) (by omega) rfl (fun _ => ⟨rfl, rfl⟩) rfl ?_
      refine sw_goto (tgt := 26) O (xx_dt dd_L_bidder 9 rfl) (by decide) ?_
      refine sw_iconst (x := 0) O (xx_dt dd_L_bidder 16 rfl) (by decide) ?_
      exact sw_iret O (xx_dt dd_L_bidder 17 rfl) rfl rfl (by rw [hQ]; exact ⟨rfl, rfl⟩)
  · obtain ⟨q1, rfl⟩ := q
    cases o with
    | inl w => cases q1
    | inr E9 =>
      cases q1
      rcases hE _ rfl with rfl | rfl
      · refine ⟨18, ⟨[], ⟨0, 15, 18, 19⟩, [⟨0, 15, 22, 21⟩], rfl, fun z hz => absurd hz List.not_mem_nil, rfl, by decide, ck_L_19, ex_IAE, rfl⟩, ?_⟩
        refine .inl ⟨6, (xx_dt dd_L_bidder 10 rfl), by decide, ?_⟩
        show SW Y 0 0 h' 20 [.ref 1000, .int p0, .int p1, .int p2, .int p3, .ref 4500, xx_d] []
        refine sw_iconst (x := 1) O (xx_dt dd_L_bidder 11 rfl) (by decide) ?_
        exact sw_iret O (xx_dt dd_L_bidder 12 rfl) rfl rfl (by rw [hQ]; exact ⟨rfl, rfl⟩)
      · refine ⟨22, ⟨[⟨0, 15, 18, 19⟩], ⟨0, 15, 22, 21⟩, [], rfl, fun z hz => by
          simp only [List.mem_cons, List.not_mem_nil, or_false] at hz
          rcases hz with rfl
          · exact ⟨by decide, _, ck_L_19, (.tail _ (.tail _ (.head _)))⟩, rfl, by decide, ck_L_21, ex_ISE, rfl⟩, ?_⟩
        refine .inl ⟨6, (xx_dt dd_L_bidder 13 rfl), by decide, ?_⟩
        show SW Y 0 0 h' 24 [.ref 1000, .int p0, .int p1, .int p2, .int p3, .ref 4500, xx_d] []
        refine sw_iconst (x := 2) O (xx_dt dd_L_bidder 14 rfl) (by decide) ?_
        exact sw_iret O (xx_dt dd_L_bidder 15 rfl) rfl rfl (by rw [hQ]; exact ⟨rfl, rfl⟩)
theorem lw_rules {l : Launch} {h h2 : XH} (hl : l.stackTraces = false) {d9 k9 n9 : Nat} {p0 p1 : Int32} {o : Int32 ⊕ String} {f0 F : Nat → Value} (hC : XEo l m_X7_rules d9 k9 n9 [.ref 1000, .int p0, .int p1] h (xoi o) h2) (h0 : h 1000 = some (13, 12, f0)) (hO : h2 4500 = some (14, 2, F)) (hE : ∀ E, o = .inr E → E = eIAE ∨ E = eISE) : XMetH l m_L_rules hh_L_rules (d9 + 1) k9 n9 [.ref 1000, .int p0, .int p1, .ref 4500] h (fun o' g => o' = .inl (some (.int (lw_k [eIAE, eISE] o))) ∧ g = lw_g h2 F o Int32.toInt64) := by
  refine XMetH.of hl rfl rfl (Nat.le_of_ble_eq_true rfl) (fun E g q => by cases q.1) (fun Y O HT hh hQ => ?_)
  show SW Y k9 n9 h 0 [.ref 1000, .int p0, .int p1, .ref 4500, xx_d] []
  refine sw_aload_n O (xx_dt dd_L_rules 0 rfl) rfl ?_
  refine sw_aload_n O (xx_dt dd_L_rules 1 rfl) rfl ?_
  refine sw_iload_n O (xx_dt dd_L_rules 2 rfl) rfl ?_
  refine sw_iload_n O (xx_dt dd_L_rules 3 rfl) rfl ?_
  refine xx_wid (k' := 0 + k9) (n' := 0 + n9) (by omega) (by omega) (sw_callVc (hh := hh_L_rules) (as := [.int p0, .int p1]) (st := [.ref 4500]) (k := 0) (n := 0) O hC ce_X7_rules ml_L_33 iv_X7_rules cl_X7 rfl h0 (xx_dt dd_L_rules 4 rfl) (Nat.le_refl _) rfl rfl (Nat.le_of_ble_eq_true rfl) (fun v h' q _ => ?_) HT (fun E h' q _ => ?_))
  · obtain ⟨q1, rfl⟩ := q
    cases o with
    | inr E => cases q1
    | inl w =>
      cases q1
      show SW Y 0 0 h' 7 [.ref 1000, .int p0, .int p1, .ref 4500, xx_d] [.int w, .ref 4500]
      refine sw_i2l O (xx_dt dd_L_rules 5 rfl) ?_
      refine sw_put (h2 := xx_up h' 4500 (14, 2, updV F 0 (.long (Int32.toInt64 w)))) O (xx_dt dd_L_rules 6 rfl) cl_X8 fl_L_13 hO (by decide) (by omega) rfl (fun _ => ⟨rfl, rfl⟩) rfl ?_
      refine sw_goto (tgt := 22) O (xx_dt dd_L_rules 7 rfl) (by decide) ?_
      refine sw_iconst (x := 0) O (xx_dt dd_L_rules 14 rfl) (by decide) ?_
      exact sw_iret O (xx_dt dd_L_rules 15 rfl) rfl rfl (by rw [hQ]; exact ⟨rfl, rfl⟩)
  · obtain ⟨q1, rfl⟩ := q
    cases o with
    | inl w => cases q1
    | inr E9 =>
      cases q1
      rcases hE _ rfl with rfl | rfl
      · refine ⟨14, ⟨[], ⟨0, 11, 14, 19⟩, [⟨0, 11, 18, 21⟩], rfl, fun z hz => absurd hz List.not_mem_nil, rfl, by decide, ck_L_19, ex_IAE, rfl⟩, ?_⟩
        refine .inl ⟨4, (xx_dt dd_L_rules 8 rfl), by decide, ?_⟩
        show SW Y 0 0 h' 16 [.ref 1000, .int p0, .int p1, .ref 4500, xx_d] []
        refine sw_iconst (x := 1) O (xx_dt dd_L_rules 9 rfl) (by decide) ?_
        exact sw_iret O (xx_dt dd_L_rules 10 rfl) rfl rfl (by rw [hQ]; exact ⟨rfl, rfl⟩)
      · refine ⟨18, ⟨[⟨0, 11, 14, 19⟩], ⟨0, 11, 18, 21⟩, [], rfl, fun z hz => by
          simp only [List.mem_cons, List.not_mem_nil, or_false] at hz
          rcases hz with rfl
          · exact ⟨by decide, _, ck_L_19, (.tail _ (.tail _ (.head _)))⟩, rfl, by decide, ck_L_21, ex_ISE, rfl⟩, ?_⟩
        refine .inl ⟨4, (xx_dt dd_L_rules 11 rfl), by decide, ?_⟩
        show SW Y 0 0 h' 20 [.ref 1000, .int p0, .int p1, .ref 4500, xx_d] []
        refine sw_iconst (x := 2) O (xx_dt dd_L_rules 12 rfl) (by decide) ?_
        exact sw_iret O (xx_dt dd_L_rules 13 rfl) rfl rfl (by rw [hQ]; exact ⟨rfl, rfl⟩)
theorem lw_step {l : Launch} {h h2 : XH} (hl : l.stackTraces = false) {d9 k9 n9 : Nat} {p0 : Int32} {o : Int32 ⊕ String} {f0 F : Nat → Value} (hC : XEo l m_X7_step d9 k9 n9 [.ref 1000, .int p0] h (xoi o) h2) (h0 : h 1000 = some (13, 12, f0)) (hO : h2 4500 = some (14, 2, F)) (hE : ∀ E, o = .inr E → E = eIAE ∨ E = eISE) : XMetH l m_L_step hh_L_step (d9 + 1) k9 n9 [.ref 1000, .int p0, .ref 4500] h (fun o' g => o' = .inl (some (.int (lw_k [eIAE, eISE] o))) ∧ g = lw_g h2 F o Int32.toInt64) := by
  refine XMetH.of hl rfl rfl (Nat.le_of_ble_eq_true rfl) (fun E g q => by cases q.1) (fun Y O HT hh hQ => ?_)
  show SW Y k9 n9 h 0 [.ref 1000, .int p0, .ref 4500, xx_d] []
  refine sw_aload_n O (xx_dt dd_L_step 0 rfl) rfl ?_
  refine sw_aload_n O (xx_dt dd_L_step 1 rfl) rfl ?_
  refine sw_iload_n O (xx_dt dd_L_step 2 rfl) rfl ?_
  refine xx_wid (k' := 0 + k9) (n' := 0 + n9) (by omega) (by omega) (sw_callVc (hh := hh_L_step) (as := [.int p0]) (st := [.ref 4500]) (k := 0) (n := 0) O hC ce_X7_step ml_L_37 iv_X7_step cl_X7 rfl h0 (xx_dt dd_L_step 3 rfl) (Nat.le_refl _) rfl rfl (Nat.le_of_ble_eq_true rfl) (fun v h' q _ => ?_) HT (fun E h' q _ => ?_))
  · obtain ⟨q1, rfl⟩ := q
    cases o with
    | inr E => cases q1
    | inl w =>
      cases q1
      show SW Y 0 0 h' 6 [.ref 1000, .int p0, .ref 4500, xx_d] [.int w, .ref 4500]
      refine sw_i2l O (xx_dt dd_L_step 4 rfl) ?_
      refine sw_put (h2 := xx_up h' 4500 (14, 2, updV F 0 (.long (Int32.toInt64 w)))) O (xx_dt dd_L_step 5 rfl) cl_X8 fl_L_13 hO (by decide) (by omega) rfl (fun _ => ⟨rfl, rfl⟩) rfl ?_
      refine sw_goto (tgt := 19) O (xx_dt dd_L_step 6 rfl) (by decide) ?_
      refine sw_iconst (x := 0) O (xx_dt dd_L_step 13 rfl) (by decide) ?_
      exact sw_iret O (xx_dt dd_L_step 14 rfl) rfl rfl (by rw [hQ]; exact ⟨rfl, rfl⟩)
  · obtain ⟨q1, rfl⟩ := q
    cases o with
    | inl w => cases q1
    | inr E9 =>
      cases q1
      rcases hE _ rfl with rfl | rfl
      · refine ⟨13, ⟨[], ⟨0, 10, 13, 19⟩, [⟨0, 10, 16, 21⟩], rfl, fun z hz => absurd hz List.not_mem_nil, rfl, by decide, ck_L_19, ex_IAE, rfl⟩, ?_⟩
        refine .inr ⟨3, (xx_dt dd_L_step 7 rfl), by decide, ?_⟩
        show SW Y 0 0 h' 14 [.ref 1000, .int p0, .ref 4500, xx_d] []
        refine sw_iconst (x := 1) O (xx_dt dd_L_step 8 rfl) (by decide) ?_
        exact sw_iret O (xx_dt dd_L_step 9 rfl) rfl rfl (by rw [hQ]; exact ⟨rfl, rfl⟩)
      · refine ⟨16, ⟨[⟨0, 10, 13, 19⟩], ⟨0, 10, 16, 21⟩, [], rfl, fun z hz => by
          simp only [List.mem_cons, List.not_mem_nil, or_false] at hz
          rcases hz with rfl
          · exact ⟨by decide, _, ck_L_19, (.tail _ (.tail _ (.head _)))⟩, rfl, by decide, ck_L_21, ex_ISE, rfl⟩, ?_⟩
        refine .inr ⟨3, (xx_dt dd_L_step 10 rfl), by decide, ?_⟩
        show SW Y 0 0 h' 17 [.ref 1000, .int p0, .ref 4500, xx_d] []
        refine sw_iconst (x := 2) O (xx_dt dd_L_step 11 rfl) (by decide) ?_
        exact sw_iret O (xx_dt dd_L_step 12 rfl) rfl rfl (by rw [hQ]; exact ⟨rfl, rfl⟩)
theorem lw_open {l : Launch} {h h2 : XH} (hl : l.stackTraces = false) {d9 k9 n9 : Nat} {o : Int32 ⊕ String} {f0 F : Nat → Value} (hC : XEo l m_X7_open d9 k9 n9 [.ref 1000] h (xoi o) h2) (h0 : h 1000 = some (13, 12, f0)) (hO : h2 4500 = some (14, 2, F)) (hE : ∀ E, o = .inr E → E = eISE) : XMetH l m_L_open hh_L_open (d9 + 1) k9 n9 [.ref 1000, .ref 4500] h (fun o' g => o' = .inl (some (.int (lw_k [eISE] o))) ∧ g = lw_g h2 F o Int32.toInt64) := by
  refine XMetH.of hl rfl rfl (Nat.le_of_ble_eq_true rfl) (fun E g q => by cases q.1) (fun Y O HT hh hQ => ?_)
  show SW Y k9 n9 h 0 [.ref 1000, .ref 4500, xx_d] []
  refine sw_aload_n O (xx_dt dd_L_open 0 rfl) rfl ?_
  refine sw_aload_n O (xx_dt dd_L_open 1 rfl) rfl ?_
  refine xx_wid (k' := 0 + k9) (n' := 0 + n9) (by omega) (by omega) (sw_callVc (hh := hh_L_open) (as := []) (st := [.ref 4500]) (k := 0) (n := 0) O hC ce_X7_open ml_L_41 iv_X7_open cl_X7 rfl h0 (xx_dt dd_L_open 2 rfl) (Nat.le_refl _) rfl rfl (Nat.le_of_ble_eq_true rfl) (fun v h' q _ => ?_) HT (fun E h' q _ => ?_))
  · obtain ⟨q1, rfl⟩ := q
    cases o with
    | inr E => cases q1
    | inl w =>
      cases q1
      show SW Y 0 0 h' 5 [.ref 1000, .ref 4500, xx_d] [.int w, .ref 4500]
      refine sw_i2l O (xx_dt dd_L_open 3 rfl) ?_
      refine sw_put (h2 := xx_up h' 4500 (14, 2, updV F 0 (.long (Int32.toInt64 w)))) O (xx_dt dd_L_open 4 rfl) cl_X8 fl_L_13 hO (by decide) (by omega) rfl (fun _ => ⟨rfl, rfl⟩) rfl ?_
      refine sw_goto (tgt := 15) O (xx_dt dd_L_open 5 rfl) (by decide) ?_
      refine sw_iconst (x := 0) O (xx_dt dd_L_open 9 rfl) (by decide) ?_
      exact sw_iret O (xx_dt dd_L_open 10 rfl) rfl rfl (by rw [hQ]; exact ⟨rfl, rfl⟩)
  · obtain ⟨q1, rfl⟩ := q
    cases o with
    | inl w => cases q1
    | inr E9 =>
      cases q1
      obtain rfl := hE _ rfl
      refine ⟨12, ⟨[], ⟨0, 9, 12, 21⟩, [], rfl, fun z hz => absurd hz List.not_mem_nil, rfl, by decide, ck_L_21, ex_ISE, rfl⟩, ?_⟩
      refine .inr ⟨2, (xx_dt dd_L_open 6 rfl), by decide, ?_⟩
      show SW Y 0 0 h' 13 [.ref 1000, .ref 4500, xx_d] []
      refine sw_iconst (x := 1) O (xx_dt dd_L_open 7 rfl) (by decide) ?_
      exact sw_iret O (xx_dt dd_L_open 8 rfl) rfl rfl (by rw [hQ]; exact ⟨rfl, rfl⟩)
theorem lw_wish {l : Launch} {h h2 : XH} (hl : l.stackTraces = false) {d9 k9 n9 : Nat} {p0 p1 p2 : Int32} {o : Int32 ⊕ String} {f0 F : Nat → Value} (hC : XEo l m_X7_wish d9 k9 n9 [.ref 1000, .int p0, .int p1, .int p2] h (xoi o) h2) (h0 : h 1000 = some (13, 12, f0)) (hO : h2 4500 = some (14, 2, F)) (hE : ∀ E, o = .inr E → E = eIOB ∨ E = eIAE ∨ E = eISE) : XMetH l m_L_wish hh_L_wish (d9 + 1) k9 n9 [.ref 1000, .int p0, .int p1, .int p2, .ref 4500] h (fun o' g => o' = .inl (some (.int (lw_k [eIOB, eIAE, eISE] o))) ∧ g = lw_g h2 F o Int32.toInt64) := by
  refine XMetH.of hl rfl rfl (Nat.le_of_ble_eq_true rfl) (fun E g q => by cases q.1) (fun Y O HT hh hQ => ?_)
  show SW Y k9 n9 h 0 [.ref 1000, .int p0, .int p1, .int p2, .ref 4500, xx_d] []
  refine sw_aload O (xx_dt dd_L_wish 0 rfl) rfl ?_
  refine sw_aload_n O (xx_dt dd_L_wish 1 rfl) rfl ?_
  refine sw_iload_n O (xx_dt dd_L_wish 2 rfl) rfl ?_
  refine sw_iload_n O (xx_dt dd_L_wish 3 rfl) rfl ?_
  refine sw_iload_n O (xx_dt dd_L_wish 4 rfl) rfl ?_
  refine xx_wid (k' := 0 + k9) (n' := 0 + n9) (by omega) (by omega) (sw_callVc (hh := hh_L_wish) (as := [.int p0, .int p1, .int p2]) (st := [.ref 4500]) (k := 0) (n := 0) O hC ce_X7_wish ml_L_45 iv_X7_wish cl_X7 rfl h0 (xx_dt dd_L_wish 5 rfl) (Nat.le_refl _) rfl rfl (Nat.le_of_ble_eq_true rfl) (fun v h' q _ => ?_) HT (fun E h' q _ => ?_))
  · obtain ⟨q1, rfl⟩ := q
    cases o with
    | inr E => cases q1
    | inl w =>
      cases q1
      show SW Y 0 0 h' 9 [.ref 1000, .int p0, .int p1, .int p2, .ref 4500, xx_d] [.int w, .ref 4500]
      refine sw_i2l O (xx_dt dd_L_wish 6 rfl) ?_
      refine sw_put (h2 := xx_up h' 4500 (14, 2, updV F 0 (.long (Int32.toInt64 w)))) O (xx_dt dd_L_wish 7 rfl) cl_X8 fl_L_13 hO (by decide) (by omega) rfl (fun _ => ⟨rfl, rfl⟩) rfl ?_
      refine sw_goto (tgt := 28) O (xx_dt dd_L_wish 8 rfl) (by decide) ?_
      refine sw_iconst (x := 0) O (xx_dt dd_L_wish 18 rfl) (by decide) ?_
      exact sw_iret O (xx_dt dd_L_wish 19 rfl) rfl rfl (by rw [hQ]; exact ⟨rfl, rfl⟩)
  · obtain ⟨q1, rfl⟩ := q
    cases o with
    | inl w => cases q1
    | inr E9 =>
      cases q1
      rcases hE _ rfl with rfl | rfl | rfl
      · refine ⟨16, ⟨[], ⟨0, 13, 16, 27⟩, [⟨0, 13, 20, 19⟩, ⟨0, 13, 24, 21⟩], rfl, fun z hz => absurd hz List.not_mem_nil, rfl, by decide, ck_L_27, ex_IOB, rfl⟩, ?_⟩
        refine .inl ⟨5, (xx_dt dd_L_wish 9 rfl), by decide, ?_⟩
        show SW Y 0 0 h' 18 [.ref 1000, .int p0, .int p1, .int p2, .ref 4500, xx_d] []
        refine sw_iconst (x := 1) O (xx_dt dd_L_wish 10 rfl) (by decide) ?_
        exact sw_iret O (xx_dt dd_L_wish 11 rfl) rfl rfl (by rw [hQ]; exact ⟨rfl, rfl⟩)
      · refine ⟨20, ⟨[⟨0, 13, 16, 27⟩], ⟨0, 13, 20, 19⟩, [⟨0, 13, 24, 21⟩], rfl, fun z hz => by
          simp only [List.mem_cons, List.not_mem_nil, or_false] at hz
          rcases hz with rfl
          · exact ⟨by decide, _, ck_L_27, (.head _)⟩, rfl, by decide, ck_L_19, ex_IAE, rfl⟩, ?_⟩
        refine .inl ⟨5, (xx_dt dd_L_wish 12 rfl), by decide, ?_⟩
        show SW Y 0 0 h' 22 [.ref 1000, .int p0, .int p1, .int p2, .ref 4500, xx_d] []
        refine sw_iconst (x := 2) O (xx_dt dd_L_wish 13 rfl) (by decide) ?_
        exact sw_iret O (xx_dt dd_L_wish 14 rfl) rfl rfl (by rw [hQ]; exact ⟨rfl, rfl⟩)
      · refine ⟨24, ⟨[⟨0, 13, 16, 27⟩, ⟨0, 13, 20, 19⟩], ⟨0, 13, 24, 21⟩, [], rfl, fun z hz => by
          simp only [List.mem_cons, List.not_mem_nil, or_false] at hz
          rcases hz with rfl | rfl
          · exact ⟨by decide, _, ck_L_27, (.tail _ (.head _))⟩
          · exact ⟨by decide, _, ck_L_19, (.tail _ (.tail _ (.head _)))⟩, rfl, by decide, ck_L_21, ex_ISE, rfl⟩, ?_⟩
        refine .inl ⟨5, (xx_dt dd_L_wish 15 rfl), by decide, ?_⟩
        show SW Y 0 0 h' 26 [.ref 1000, .int p0, .int p1, .int p2, .ref 4500, xx_d] []
        refine sw_iconst (x := 3) O (xx_dt dd_L_wish 16 rfl) (by decide) ?_
        exact sw_iret O (xx_dt dd_L_wish 17 rfl) rfl rfl (by rw [hQ]; exact ⟨rfl, rfl⟩)
theorem lw_waive {l : Launch} {h h2 : XH} (hl : l.stackTraces = false) {d9 k9 n9 : Nat} {p0 : Int32} {o : Int32 ⊕ String} {f0 F : Nat → Value} (hC : XEo l m_X7_waive d9 k9 n9 [.ref 1000, .int p0] h (xoi o) h2) (h0 : h 1000 = some (13, 12, f0)) (hO : h2 4500 = some (14, 2, F)) (hE : ∀ E, o = .inr E → E = eIOB ∨ E = eISE) : XMetH l m_L_waive hh_L_waive (d9 + 1) k9 n9 [.ref 1000, .int p0, .ref 4500] h (fun o' g => o' = .inl (some (.int (lw_k [eIOB, eISE] o))) ∧ g = lw_g h2 F o Int32.toInt64) := by
  refine XMetH.of hl rfl rfl (Nat.le_of_ble_eq_true rfl) (fun E g q => by cases q.1) (fun Y O HT hh hQ => ?_)
  show SW Y k9 n9 h 0 [.ref 1000, .int p0, .ref 4500, xx_d] []
  refine sw_aload_n O (xx_dt dd_L_waive 0 rfl) rfl ?_
  refine sw_aload_n O (xx_dt dd_L_waive 1 rfl) rfl ?_
  refine sw_iload_n O (xx_dt dd_L_waive 2 rfl) rfl ?_
  refine xx_wid (k' := 0 + k9) (n' := 0 + n9) (by omega) (by omega) (sw_callVc (hh := hh_L_waive) (as := [.int p0]) (st := [.ref 4500]) (k := 0) (n := 0) O hC ce_X7_waive ml_L_48 iv_X7_waive cl_X7 rfl h0 (xx_dt dd_L_waive 3 rfl) (Nat.le_refl _) rfl rfl (Nat.le_of_ble_eq_true rfl) (fun v h' q _ => ?_) HT (fun E h' q _ => ?_))
  · obtain ⟨q1, rfl⟩ := q
    cases o with
    | inr E => cases q1
    | inl w =>
      cases q1
      show SW Y 0 0 h' 6 [.ref 1000, .int p0, .ref 4500, xx_d] [.int w, .ref 4500]
      refine sw_i2l O (xx_dt dd_L_waive 4 rfl) ?_
      refine sw_put (h2 := xx_up h' 4500 (14, 2, updV F 0 (.long (Int32.toInt64 w)))) O (xx_dt dd_L_waive 5 rfl) cl_X8 fl_L_13 hO (by decide) (by omega) rfl (fun _ => ⟨rfl, rfl⟩) rfl ?_
      refine sw_goto (tgt := 19) O (xx_dt dd_L_waive 6 rfl) (by decide) ?_
      refine sw_iconst (x := 0) O (xx_dt dd_L_waive 13 rfl) (by decide) ?_
      exact sw_iret O (xx_dt dd_L_waive 14 rfl) rfl rfl (by rw [hQ]; exact ⟨rfl, rfl⟩)
  · obtain ⟨q1, rfl⟩ := q
    cases o with
    | inl w => cases q1
    | inr E9 =>
      cases q1
      rcases hE _ rfl with rfl | rfl
      · refine ⟨13, ⟨[], ⟨0, 10, 13, 27⟩, [⟨0, 10, 16, 21⟩], rfl, fun z hz => absurd hz List.not_mem_nil, rfl, by decide, ck_L_27, ex_IOB, rfl⟩, ?_⟩
        refine .inr ⟨3, (xx_dt dd_L_waive 7 rfl), by decide, ?_⟩
        show SW Y 0 0 h' 14 [.ref 1000, .int p0, .ref 4500, xx_d] []
        refine sw_iconst (x := 1) O (xx_dt dd_L_waive 8 rfl) (by decide) ?_
        exact sw_iret O (xx_dt dd_L_waive 9 rfl) rfl rfl (by rw [hQ]; exact ⟨rfl, rfl⟩)
      · refine ⟨16, ⟨[⟨0, 10, 13, 27⟩], ⟨0, 10, 16, 21⟩, [], rfl, fun z hz => by
          simp only [List.mem_cons, List.not_mem_nil, or_false] at hz
          rcases hz with rfl
          · exact ⟨by decide, _, ck_L_27, (.tail _ (.head _))⟩, rfl, by decide, ck_L_21, ex_ISE, rfl⟩, ?_⟩
        refine .inr ⟨3, (xx_dt dd_L_waive 10 rfl), by decide, ?_⟩
        show SW Y 0 0 h' 17 [.ref 1000, .int p0, .ref 4500, xx_d] []
        refine sw_iconst (x := 2) O (xx_dt dd_L_waive 11 rfl) (by decide) ?_
        exact sw_iret O (xx_dt dd_L_waive 12 rfl) rfl rfl (by rw [hQ]; exact ⟨rfl, rfl⟩)
theorem lw_close {l : Launch} {h h2 : XH} (hl : l.stackTraces = false) {d9 k9 n9 : Nat} {p0 : Int32} {o : Int32 ⊕ String} {f0 F : Nat → Value} (hC : XEo l m_X7_close d9 k9 n9 [.ref 1000, .int p0] h (xoi o) h2) (h0 : h 1000 = some (13, 12, f0)) (hO : h2 4500 = some (14, 2, F)) (hE : ∀ E, o = .inr E → E = eIAE ∨ E = eISE) : XMetH l m_L_close hh_L_close (d9 + 1) k9 n9 [.ref 1000, .int p0, .ref 4500] h (fun o' g => o' = .inl (some (.int (lw_k [eIAE, eISE] o))) ∧ g = lw_g h2 F o Int32.toInt64) := by
  refine XMetH.of hl rfl rfl (Nat.le_of_ble_eq_true rfl) (fun E g q => by cases q.1) (fun Y O HT hh hQ => ?_)
  show SW Y k9 n9 h 0 [.ref 1000, .int p0, .ref 4500, xx_d] []
  refine sw_aload_n O (xx_dt dd_L_close 0 rfl) rfl ?_
  refine sw_aload_n O (xx_dt dd_L_close 1 rfl) rfl ?_
  refine sw_iload_n O (xx_dt dd_L_close 2 rfl) rfl ?_
  refine xx_wid (k' := 0 + k9) (n' := 0 + n9) (by omega) (by omega) (sw_callVc (hh := hh_L_close) (as := [.int p0]) (st := [.ref 4500]) (k := 0) (n := 0) O hC ce_X7_close ml_L_51 iv_X7_close cl_X7 rfl h0 (xx_dt dd_L_close 3 rfl) (Nat.le_refl _) rfl rfl (Nat.le_of_ble_eq_true rfl) (fun v h' q _ => ?_) HT (fun E h' q _ => ?_))
  · obtain ⟨q1, rfl⟩ := q
    cases o with
    | inr E => cases q1
    | inl w =>
      cases q1
      show SW Y 0 0 h' 6 [.ref 1000, .int p0, .ref 4500, xx_d] [.int w, .ref 4500]
      refine sw_i2l O (xx_dt dd_L_close 4 rfl) ?_
      refine sw_put (h2 := xx_up h' 4500 (14, 2, updV F 0 (.long (Int32.toInt64 w)))) O (xx_dt dd_L_close 5 rfl) cl_X8 fl_L_13 hO (by decide) (by omega) rfl (fun _ => ⟨rfl, rfl⟩) rfl ?_
      refine sw_goto (tgt := 19) O (xx_dt dd_L_close 6 rfl) (by decide) ?_
      refine sw_iconst (x := 0) O (xx_dt dd_L_close 13 rfl) (by decide) ?_
      exact sw_iret O (xx_dt dd_L_close 14 rfl) rfl rfl (by rw [hQ]; exact ⟨rfl, rfl⟩)
  · obtain ⟨q1, rfl⟩ := q
    cases o with
    | inl w => cases q1
    | inr E9 =>
      cases q1
      rcases hE _ rfl with rfl | rfl
      · refine ⟨13, ⟨[], ⟨0, 10, 13, 19⟩, [⟨0, 10, 16, 21⟩], rfl, fun z hz => absurd hz List.not_mem_nil, rfl, by decide, ck_L_19, ex_IAE, rfl⟩, ?_⟩
        refine .inr ⟨3, (xx_dt dd_L_close 7 rfl), by decide, ?_⟩
        show SW Y 0 0 h' 14 [.ref 1000, .int p0, .ref 4500, xx_d] []
        refine sw_iconst (x := 1) O (xx_dt dd_L_close 8 rfl) (by decide) ?_
        exact sw_iret O (xx_dt dd_L_close 9 rfl) rfl rfl (by rw [hQ]; exact ⟨rfl, rfl⟩)
      · refine ⟨16, ⟨[⟨0, 10, 13, 19⟩], ⟨0, 10, 16, 21⟩, [], rfl, fun z hz => by
          simp only [List.mem_cons, List.not_mem_nil, or_false] at hz
          rcases hz with rfl
          · exact ⟨by decide, _, ck_L_19, (.tail _ (.tail _ (.head _)))⟩, rfl, by decide, ck_L_21, ex_ISE, rfl⟩, ?_⟩
        refine .inr ⟨3, (xx_dt dd_L_close 10 rfl), by decide, ?_⟩
        show SW Y 0 0 h' 17 [.ref 1000, .int p0, .ref 4500, xx_d] []
        refine sw_iconst (x := 2) O (xx_dt dd_L_close 11 rfl) (by decide) ?_
        exact sw_iret O (xx_dt dd_L_close 12 rfl) rfl rfl (by rw [hQ]; exact ⟨rfl, rfl⟩)
theorem lw_offer {l : Launch} {h h2 : XH} (hl : l.stackTraces = false) {d9 k9 n9 : Nat} {p0 p1 p2 : Int32} {o : Int32 ⊕ String} {f0 F : Nat → Value} (hC : XEo l m_X7_offer d9 k9 n9 [.ref 1000, .int p0, .int p1, .int p2] h (xoi o) h2) (h0 : h 1000 = some (13, 12, f0)) (hO : h2 4500 = some (14, 2, F)) (hE : ∀ E, o = .inr E → E = eIOB ∨ E = eIAE ∨ E = eISE) : XMetH l m_L_offer hh_L_offer (d9 + 1) k9 n9 [.ref 1000, .int p0, .int p1, .int p2, .ref 4500] h (fun o' g => o' = .inl (some (.int (lw_k [eIOB, eIAE, eISE] o))) ∧ g = lw_g h2 F o Int32.toInt64) := by
  refine XMetH.of hl rfl rfl (Nat.le_of_ble_eq_true rfl) (fun E g q => by cases q.1) (fun Y O HT hh hQ => ?_)
  show SW Y k9 n9 h 0 [.ref 1000, .int p0, .int p1, .int p2, .ref 4500, xx_d] []
  refine sw_aload O (xx_dt dd_L_offer 0 rfl) rfl ?_
  refine sw_aload_n O (xx_dt dd_L_offer 1 rfl) rfl ?_
  refine sw_iload_n O (xx_dt dd_L_offer 2 rfl) rfl ?_
  refine sw_iload_n O (xx_dt dd_L_offer 3 rfl) rfl ?_
  refine sw_iload_n O (xx_dt dd_L_offer 4 rfl) rfl ?_
  refine xx_wid (k' := 0 + k9) (n' := 0 + n9) (by omega) (by omega) (sw_callVc (hh := hh_L_offer) (as := [.int p0, .int p1, .int p2]) (st := [.ref 4500]) (k := 0) (n := 0) O hC ce_X7_offer ml_L_54 iv_X7_offer cl_X7 rfl h0 (xx_dt dd_L_offer 5 rfl) (Nat.le_refl _) rfl rfl (Nat.le_of_ble_eq_true rfl) (fun v h' q _ => ?_) HT (fun E h' q _ => ?_))
  · obtain ⟨q1, rfl⟩ := q
    cases o with
    | inr E => cases q1
    | inl w =>
      cases q1
      show SW Y 0 0 h' 9 [.ref 1000, .int p0, .int p1, .int p2, .ref 4500, xx_d] [.int w, .ref 4500]
      refine sw_i2l O (xx_dt dd_L_offer 6 rfl) ?_
      refine sw_put (h2 := xx_up h' 4500 (14, 2, updV F 0 (.long (Int32.toInt64 w)))) O (xx_dt dd_L_offer 7 rfl) cl_X8 fl_L_13 hO (by decide) (by omega) rfl (fun _ => ⟨rfl, rfl⟩) rfl ?_
      refine sw_goto (tgt := 28) O (xx_dt dd_L_offer 8 rfl) (by decide) ?_
      refine sw_iconst (x := 0) O (xx_dt dd_L_offer 18 rfl) (by decide) ?_
      exact sw_iret O (xx_dt dd_L_offer 19 rfl) rfl rfl (by rw [hQ]; exact ⟨rfl, rfl⟩)
  · obtain ⟨q1, rfl⟩ := q
    cases o with
    | inl w => cases q1
    | inr E9 =>
      cases q1
      rcases hE _ rfl with rfl | rfl | rfl
      · refine ⟨16, ⟨[], ⟨0, 13, 16, 27⟩, [⟨0, 13, 20, 19⟩, ⟨0, 13, 24, 21⟩], rfl, fun z hz => absurd hz List.not_mem_nil, rfl, by decide, ck_L_27, ex_IOB, rfl⟩, ?_⟩
        refine .inl ⟨5, (xx_dt dd_L_offer 9 rfl), by decide, ?_⟩
        show SW Y 0 0 h' 18 [.ref 1000, .int p0, .int p1, .int p2, .ref 4500, xx_d] []
        refine sw_iconst (x := 1) O (xx_dt dd_L_offer 10 rfl) (by decide) ?_
        exact sw_iret O (xx_dt dd_L_offer 11 rfl) rfl rfl (by rw [hQ]; exact ⟨rfl, rfl⟩)
      · refine ⟨20, ⟨[⟨0, 13, 16, 27⟩], ⟨0, 13, 20, 19⟩, [⟨0, 13, 24, 21⟩], rfl, fun z hz => by
          simp only [List.mem_cons, List.not_mem_nil, or_false] at hz
          rcases hz with rfl
          · exact ⟨by decide, _, ck_L_27, (.head _)⟩, rfl, by decide, ck_L_19, ex_IAE, rfl⟩, ?_⟩
        refine .inl ⟨5, (xx_dt dd_L_offer 12 rfl), by decide, ?_⟩
        show SW Y 0 0 h' 22 [.ref 1000, .int p0, .int p1, .int p2, .ref 4500, xx_d] []
        refine sw_iconst (x := 2) O (xx_dt dd_L_offer 13 rfl) (by decide) ?_
        exact sw_iret O (xx_dt dd_L_offer 14 rfl) rfl rfl (by rw [hQ]; exact ⟨rfl, rfl⟩)
      · refine ⟨24, ⟨[⟨0, 13, 16, 27⟩, ⟨0, 13, 20, 19⟩], ⟨0, 13, 24, 21⟩, [], rfl, fun z hz => by
          simp only [List.mem_cons, List.not_mem_nil, or_false] at hz
          rcases hz with rfl | rfl
          · exact ⟨by decide, _, ck_L_27, (.tail _ (.head _))⟩
          · exact ⟨by decide, _, ck_L_19, (.tail _ (.tail _ (.head _)))⟩, rfl, by decide, ck_L_21, ex_ISE, rfl⟩, ?_⟩
        refine .inl ⟨5, (xx_dt dd_L_offer 15 rfl), by decide, ?_⟩
        show SW Y 0 0 h' 26 [.ref 1000, .int p0, .int p1, .int p2, .ref 4500, xx_d] []
        refine sw_iconst (x := 3) O (xx_dt dd_L_offer 16 rfl) (by decide) ?_
        exact sw_iret O (xx_dt dd_L_offer 17 rfl) rfl rfl (by rw [hQ]; exact ⟨rfl, rfl⟩)
theorem lw_settle {l : Launch} {h h2 : XH} (hl : l.stackTraces = false) {d9 k9 n9 : Nat} {p0 : Int32} {o : Int32 ⊕ String} {f0 F : Nat → Value} (hC : XEo l m_X7_settle d9 k9 n9 [.ref 1000, .int p0] h (xoi o) h2) (h0 : h 1000 = some (13, 12, f0)) (hO : h2 4500 = some (14, 2, F)) (hE : ∀ E, o = .inr E → E = eIAE ∨ E = eISE) : XMetH l m_L_settle hh_L_settle (d9 + 1) k9 n9 [.ref 1000, .int p0, .ref 4500] h (fun o' g => o' = .inl (some (.int (lw_k [eIAE, eISE] o))) ∧ g = lw_g h2 F o Int32.toInt64) := by
  refine XMetH.of hl rfl rfl (Nat.le_of_ble_eq_true rfl) (fun E g q => by cases q.1) (fun Y O HT hh hQ => ?_)
  show SW Y k9 n9 h 0 [.ref 1000, .int p0, .ref 4500, xx_d] []
  refine sw_aload_n O (xx_dt dd_L_settle 0 rfl) rfl ?_
  refine sw_aload_n O (xx_dt dd_L_settle 1 rfl) rfl ?_
  refine sw_iload_n O (xx_dt dd_L_settle 2 rfl) rfl ?_
  refine xx_wid (k' := 0 + k9) (n' := 0 + n9) (by omega) (by omega) (sw_callVc (hh := hh_L_settle) (as := [.int p0]) (st := [.ref 4500]) (k := 0) (n := 0) O hC ce_X7_settle ml_L_57 iv_X7_settle cl_X7 rfl h0 (xx_dt dd_L_settle 3 rfl) (Nat.le_refl _) rfl rfl (Nat.le_of_ble_eq_true rfl) (fun v h' q _ => ?_) HT (fun E h' q _ => ?_))
  · obtain ⟨q1, rfl⟩ := q
    cases o with
    | inr E => cases q1
    | inl w =>
      cases q1
      show SW Y 0 0 h' 6 [.ref 1000, .int p0, .ref 4500, xx_d] [.int w, .ref 4500]
      refine sw_i2l O (xx_dt dd_L_settle 4 rfl) ?_
      refine sw_put (h2 := xx_up h' 4500 (14, 2, updV F 0 (.long (Int32.toInt64 w)))) O (xx_dt dd_L_settle 5 rfl) cl_X8 fl_L_13 hO (by decide) (by omega) rfl (fun _ => ⟨rfl, rfl⟩) rfl ?_
      refine sw_goto (tgt := 19) O (xx_dt dd_L_settle 6 rfl) (by decide) ?_
      refine sw_iconst (x := 0) O (xx_dt dd_L_settle 13 rfl) (by decide) ?_
      exact sw_iret O (xx_dt dd_L_settle 14 rfl) rfl rfl (by rw [hQ]; exact ⟨rfl, rfl⟩)
  · obtain ⟨q1, rfl⟩ := q
    cases o with
    | inl w => cases q1
    | inr E9 =>
      cases q1
      rcases hE _ rfl with rfl | rfl
      · refine ⟨13, ⟨[], ⟨0, 10, 13, 19⟩, [⟨0, 10, 16, 21⟩], rfl, fun z hz => absurd hz List.not_mem_nil, rfl, by decide, ck_L_19, ex_IAE, rfl⟩, ?_⟩
        refine .inr ⟨3, (xx_dt dd_L_settle 7 rfl), by decide, ?_⟩
        show SW Y 0 0 h' 14 [.ref 1000, .int p0, .ref 4500, xx_d] []
        refine sw_iconst (x := 1) O (xx_dt dd_L_settle 8 rfl) (by decide) ?_
        exact sw_iret O (xx_dt dd_L_settle 9 rfl) rfl rfl (by rw [hQ]; exact ⟨rfl, rfl⟩)
      · refine ⟨16, ⟨[⟨0, 10, 13, 19⟩], ⟨0, 10, 16, 21⟩, [], rfl, fun z hz => by
          simp only [List.mem_cons, List.not_mem_nil, or_false] at hz
          rcases hz with rfl
          · exact ⟨by decide, _, ck_L_19, (.tail _ (.tail _ (.head _)))⟩, rfl, by decide, ck_L_21, ex_ISE, rfl⟩, ?_⟩
        refine .inr ⟨3, (xx_dt dd_L_settle 10 rfl), by decide, ?_⟩
        show SW Y 0 0 h' 17 [.ref 1000, .int p0, .ref 4500, xx_d] []
        refine sw_iconst (x := 2) O (xx_dt dd_L_settle 11 rfl) (by decide) ?_
        exact sw_iret O (xx_dt dd_L_settle 12 rfl) rfl rfl (by rw [hQ]; exact ⟨rfl, rfl⟩)
theorem lw_fail {l : Launch} {h h2 : XH} (hl : l.stackTraces = false) {d9 k9 n9 : Nat} {p0 : Int32} {o : Int32 ⊕ String} {f0 F : Nat → Value} (hC : XEo l m_X7_fail d9 k9 n9 [.ref 1000, .int p0] h (xoi o) h2) (h0 : h 1000 = some (13, 12, f0)) (hO : h2 4500 = some (14, 2, F)) (hE : ∀ E, o = .inr E → E = eIOB ∨ E = eISE) : XMetH l m_L_fail hh_L_fail (d9 + 1) k9 n9 [.ref 1000, .int p0, .ref 4500] h (fun o' g => o' = .inl (some (.int (lw_k [eIOB, eISE] o))) ∧ g = lw_g h2 F o Int32.toInt64) := by
  refine XMetH.of hl rfl rfl (Nat.le_of_ble_eq_true rfl) (fun E g q => by cases q.1) (fun Y O HT hh hQ => ?_)
  show SW Y k9 n9 h 0 [.ref 1000, .int p0, .ref 4500, xx_d] []
  refine sw_aload_n O (xx_dt dd_L_fail 0 rfl) rfl ?_
  refine sw_aload_n O (xx_dt dd_L_fail 1 rfl) rfl ?_
  refine sw_iload_n O (xx_dt dd_L_fail 2 rfl) rfl ?_
  refine xx_wid (k' := 0 + k9) (n' := 0 + n9) (by omega) (by omega) (sw_callVc (hh := hh_L_fail) (as := [.int p0]) (st := [.ref 4500]) (k := 0) (n := 0) O hC ce_X7_fail ml_L_60 iv_X7_fail cl_X7 rfl h0 (xx_dt dd_L_fail 3 rfl) (Nat.le_refl _) rfl rfl (Nat.le_of_ble_eq_true rfl) (fun v h' q _ => ?_) HT (fun E h' q _ => ?_))
  · obtain ⟨q1, rfl⟩ := q
    cases o with
    | inr E => cases q1
    | inl w =>
      cases q1
      show SW Y 0 0 h' 6 [.ref 1000, .int p0, .ref 4500, xx_d] [.int w, .ref 4500]
      refine sw_i2l O (xx_dt dd_L_fail 4 rfl) ?_
      refine sw_put (h2 := xx_up h' 4500 (14, 2, updV F 0 (.long (Int32.toInt64 w)))) O (xx_dt dd_L_fail 5 rfl) cl_X8 fl_L_13 hO (by decide) (by omega) rfl (fun _ => ⟨rfl, rfl⟩) rfl ?_
      refine sw_goto (tgt := 19) O (xx_dt dd_L_fail 6 rfl) (by decide) ?_
      refine sw_iconst (x := 0) O (xx_dt dd_L_fail 13 rfl) (by decide) ?_
      exact sw_iret O (xx_dt dd_L_fail 14 rfl) rfl rfl (by rw [hQ]; exact ⟨rfl, rfl⟩)
  · obtain ⟨q1, rfl⟩ := q
    cases o with
    | inl w => cases q1
    | inr E9 =>
      cases q1
      rcases hE _ rfl with rfl | rfl
      · refine ⟨13, ⟨[], ⟨0, 10, 13, 27⟩, [⟨0, 10, 16, 21⟩], rfl, fun z hz => absurd hz List.not_mem_nil, rfl, by decide, ck_L_27, ex_IOB, rfl⟩, ?_⟩
        refine .inr ⟨3, (xx_dt dd_L_fail 7 rfl), by decide, ?_⟩
        show SW Y 0 0 h' 14 [.ref 1000, .int p0, .ref 4500, xx_d] []
        refine sw_iconst (x := 1) O (xx_dt dd_L_fail 8 rfl) (by decide) ?_
        exact sw_iret O (xx_dt dd_L_fail 9 rfl) rfl rfl (by rw [hQ]; exact ⟨rfl, rfl⟩)
      · refine ⟨16, ⟨[⟨0, 10, 13, 27⟩], ⟨0, 10, 16, 21⟩, [], rfl, fun z hz => by
          simp only [List.mem_cons, List.not_mem_nil, or_false] at hz
          rcases hz with rfl
          · exact ⟨by decide, _, ck_L_27, (.tail _ (.head _))⟩, rfl, by decide, ck_L_21, ex_ISE, rfl⟩, ?_⟩
        refine .inr ⟨3, (xx_dt dd_L_fail 10 rfl), by decide, ?_⟩
        show SW Y 0 0 h' 17 [.ref 1000, .int p0, .ref 4500, xx_d] []
        refine sw_iconst (x := 2) O (xx_dt dd_L_fail 11 rfl) (by decide) ?_
        exact sw_iret O (xx_dt dd_L_fail 12 rfl) rfl rfl (by rw [hQ]; exact ⟨rfl, rfl⟩)
theorem lw_station {l : Launch} {h h2 : XH} (hl : l.stackTraces = false) {d9 k9 n9 : Nat} {p0 p1 : Int32} {o : Int32 ⊕ String} {f0 F : Nat → Value} (hC : XEo l m_X7_station d9 k9 n9 [.ref 1000, .int p0, .int p1] h (xoi o) h2) (h0 : h 1000 = some (13, 12, f0)) (hO : h2 4500 = some (14, 2, F)) (hE : ∀ E, o = .inr E → E = eIOB ∨ E = eIAE ∨ E = eISE) : XMetH l m_L_station hh_L_station (d9 + 1) k9 n9 [.ref 1000, .int p0, .int p1, .ref 4500] h (fun o' g => o' = .inl (some (.int (lw_k [eIOB, eIAE, eISE] o))) ∧ g = lw_g h2 F o Int32.toInt64) := by
  refine XMetH.of hl rfl rfl (Nat.le_of_ble_eq_true rfl) (fun E g q => by cases q.1) (fun Y O HT hh hQ => ?_)
  show SW Y k9 n9 h 0 [.ref 1000, .int p0, .int p1, .ref 4500, xx_d] []
  refine sw_aload_n O (xx_dt dd_L_station 0 rfl) rfl ?_
  refine sw_aload_n O (xx_dt dd_L_station 1 rfl) rfl ?_
  refine sw_iload_n O (xx_dt dd_L_station 2 rfl) rfl ?_
  refine sw_iload_n O (xx_dt dd_L_station 3 rfl) rfl ?_
  refine xx_wid (k' := 0 + k9) (n' := 0 + n9) (by omega) (by omega) (sw_callVc (hh := hh_L_station) (as := [.int p0, .int p1]) (st := [.ref 4500]) (k := 0) (n := 0) O hC ce_X7_station ml_L_63 iv_X7_station cl_X7 rfl h0 (xx_dt dd_L_station 4 rfl) (Nat.le_refl _) rfl rfl (Nat.le_of_ble_eq_true rfl) (fun v h' q _ => ?_) HT (fun E h' q _ => ?_))
  · obtain ⟨q1, rfl⟩ := q
    cases o with
    | inr E => cases q1
    | inl w =>
      cases q1
      show SW Y 0 0 h' 7 [.ref 1000, .int p0, .int p1, .ref 4500, xx_d] [.int w, .ref 4500]
      refine sw_i2l O (xx_dt dd_L_station 5 rfl) ?_
      refine sw_put (h2 := xx_up h' 4500 (14, 2, updV F 0 (.long (Int32.toInt64 w)))) O (xx_dt dd_L_station 6 rfl) cl_X8 fl_L_13 hO (by decide) (by omega) rfl (fun _ => ⟨rfl, rfl⟩) rfl ?_
      refine sw_goto (tgt := 26) O (xx_dt dd_L_station 7 rfl) (by decide) ?_
      refine sw_iconst (x := 0) O (xx_dt dd_L_station 17 rfl) (by decide) ?_
      exact sw_iret O (xx_dt dd_L_station 18 rfl) rfl rfl (by rw [hQ]; exact ⟨rfl, rfl⟩)
  · obtain ⟨q1, rfl⟩ := q
    cases o with
    | inl w => cases q1
    | inr E9 =>
      cases q1
      rcases hE _ rfl with rfl | rfl | rfl
      · refine ⟨14, ⟨[], ⟨0, 11, 14, 27⟩, [⟨0, 11, 18, 19⟩, ⟨0, 11, 22, 21⟩], rfl, fun z hz => absurd hz List.not_mem_nil, rfl, by decide, ck_L_27, ex_IOB, rfl⟩, ?_⟩
        refine .inl ⟨4, (xx_dt dd_L_station 8 rfl), by decide, ?_⟩
        show SW Y 0 0 h' 16 [.ref 1000, .int p0, .int p1, .ref 4500, xx_d] []
        refine sw_iconst (x := 1) O (xx_dt dd_L_station 9 rfl) (by decide) ?_
        exact sw_iret O (xx_dt dd_L_station 10 rfl) rfl rfl (by rw [hQ]; exact ⟨rfl, rfl⟩)
      · refine ⟨18, ⟨[⟨0, 11, 14, 27⟩], ⟨0, 11, 18, 19⟩, [⟨0, 11, 22, 21⟩], rfl, fun z hz => by
          simp only [List.mem_cons, List.not_mem_nil, or_false] at hz
          rcases hz with rfl
          · exact ⟨by decide, _, ck_L_27, (.head _)⟩, rfl, by decide, ck_L_19, ex_IAE, rfl⟩, ?_⟩
        refine .inl ⟨4, (xx_dt dd_L_station 11 rfl), by decide, ?_⟩
        show SW Y 0 0 h' 20 [.ref 1000, .int p0, .int p1, .ref 4500, xx_d] []
        refine sw_iconst (x := 2) O (xx_dt dd_L_station 12 rfl) (by decide) ?_
        exact sw_iret O (xx_dt dd_L_station 13 rfl) rfl rfl (by rw [hQ]; exact ⟨rfl, rfl⟩)
      · refine ⟨22, ⟨[⟨0, 11, 14, 27⟩, ⟨0, 11, 18, 19⟩], ⟨0, 11, 22, 21⟩, [], rfl, fun z hz => by
          simp only [List.mem_cons, List.not_mem_nil, or_false] at hz
          rcases hz with rfl | rfl
          · exact ⟨by decide, _, ck_L_27, (.tail _ (.head _))⟩
          · exact ⟨by decide, _, ck_L_19, (.tail _ (.tail _ (.head _)))⟩, rfl, by decide, ck_L_21, ex_ISE, rfl⟩, ?_⟩
        refine .inl ⟨4, (xx_dt dd_L_station 14 rfl), by decide, ?_⟩
        show SW Y 0 0 h' 24 [.ref 1000, .int p0, .int p1, .ref 4500, xx_d] []
        refine sw_iconst (x := 3) O (xx_dt dd_L_station 15 rfl) (by decide) ?_
        exact sw_iret O (xx_dt dd_L_station 16 rfl) rfl rfl (by rw [hQ]; exact ⟨rfl, rfl⟩)
theorem lw_ask {l : Launch} {h h2 : XH} (hl : l.stackTraces = false) {d9 k9 n9 : Nat} {p0 p1 : Int32} {o : Int32 ⊕ String} {f0 F : Nat → Value} (hC : XEo l m_X7_ask d9 k9 n9 [.ref 1000, .int p0, .int p1] h (xoi o) h2) (h0 : h 1000 = some (13, 12, f0)) (hO : h2 4500 = some (14, 2, F)) (hE : ∀ E, o = .inr E → E = eIOB ∨ E = eIAE) : XMetH l m_L_ask hh_L_ask (d9 + 1) k9 n9 [.ref 1000, .int p0, .int p1, .ref 4500] h (fun o' g => o' = .inl (some (.int (lw_k [eIOB, eIAE] o))) ∧ g = lw_g h2 F o Int32.toInt64) := by
  refine XMetH.of hl rfl rfl (Nat.le_of_ble_eq_true rfl) (fun E g q => by cases q.1) (fun Y O HT hh hQ => ?_)
  show SW Y k9 n9 h 0 [.ref 1000, .int p0, .int p1, .ref 4500, xx_d] []
  refine sw_aload_n O (xx_dt dd_L_ask 0 rfl) rfl ?_
  refine sw_aload_n O (xx_dt dd_L_ask 1 rfl) rfl ?_
  refine sw_iload_n O (xx_dt dd_L_ask 2 rfl) rfl ?_
  refine sw_iload_n O (xx_dt dd_L_ask 3 rfl) rfl ?_
  refine xx_wid (k' := 0 + k9) (n' := 0 + n9) (by omega) (by omega) (sw_callVc (hh := hh_L_ask) (as := [.int p0, .int p1]) (st := [.ref 4500]) (k := 0) (n := 0) O hC ce_X7_ask ml_L_66 iv_X7_ask cl_X7 rfl h0 (xx_dt dd_L_ask 4 rfl) (Nat.le_refl _) rfl rfl (Nat.le_of_ble_eq_true rfl) (fun v h' q _ => ?_) HT (fun E h' q _ => ?_))
  · obtain ⟨q1, rfl⟩ := q
    cases o with
    | inr E => cases q1
    | inl w =>
      cases q1
      show SW Y 0 0 h' 7 [.ref 1000, .int p0, .int p1, .ref 4500, xx_d] [.int w, .ref 4500]
      refine sw_i2l O (xx_dt dd_L_ask 5 rfl) ?_
      refine sw_put (h2 := xx_up h' 4500 (14, 2, updV F 0 (.long (Int32.toInt64 w)))) O (xx_dt dd_L_ask 6 rfl) cl_X8 fl_L_13 hO (by decide) (by omega) rfl (fun _ => ⟨rfl, rfl⟩) rfl ?_
      refine sw_goto (tgt := 22) O (xx_dt dd_L_ask 7 rfl) (by decide) ?_
      refine sw_iconst (x := 0) O (xx_dt dd_L_ask 14 rfl) (by decide) ?_
      exact sw_iret O (xx_dt dd_L_ask 15 rfl) rfl rfl (by rw [hQ]; exact ⟨rfl, rfl⟩)
  · obtain ⟨q1, rfl⟩ := q
    cases o with
    | inl w => cases q1
    | inr E9 =>
      cases q1
      rcases hE _ rfl with rfl | rfl
      · refine ⟨14, ⟨[], ⟨0, 11, 14, 27⟩, [⟨0, 11, 18, 19⟩], rfl, fun z hz => absurd hz List.not_mem_nil, rfl, by decide, ck_L_27, ex_IOB, rfl⟩, ?_⟩
        refine .inl ⟨4, (xx_dt dd_L_ask 8 rfl), by decide, ?_⟩
        show SW Y 0 0 h' 16 [.ref 1000, .int p0, .int p1, .ref 4500, xx_d] []
        refine sw_iconst (x := 1) O (xx_dt dd_L_ask 9 rfl) (by decide) ?_
        exact sw_iret O (xx_dt dd_L_ask 10 rfl) rfl rfl (by rw [hQ]; exact ⟨rfl, rfl⟩)
      · refine ⟨18, ⟨[⟨0, 11, 14, 27⟩], ⟨0, 11, 18, 19⟩, [], rfl, fun z hz => by
          simp only [List.mem_cons, List.not_mem_nil, or_false] at hz
          rcases hz with rfl
          · exact ⟨by decide, _, ck_L_27, (.head _)⟩, rfl, by decide, ck_L_19, ex_IAE, rfl⟩, ?_⟩
        refine .inl ⟨4, (xx_dt dd_L_ask 11 rfl), by decide, ?_⟩
        show SW Y 0 0 h' 20 [.ref 1000, .int p0, .int p1, .ref 4500, xx_d] []
        refine sw_iconst (x := 2) O (xx_dt dd_L_ask 12 rfl) (by decide) ?_
        exact sw_iret O (xx_dt dd_L_ask 13 rfl) rfl rfl (by rw [hQ]; exact ⟨rfl, rfl⟩)
theorem lw_packs {l : Launch} {h h2 : XH} (hl : l.stackTraces = false) {d9 k9 n9 : Nat} {p0 p1 : Int32} {o : Int32 ⊕ String} {f0 F : Nat → Value} (hC : XEo l m_X7_packs d9 k9 n9 [.ref 1000, .int p0, .int p1] h (xoi o) h2) (h0 : h 1000 = some (13, 12, f0)) (hO : h2 4500 = some (14, 2, F)) (hE : ∀ E, o = .inr E → E = eIAE) : XMetH l m_L_packs hh_L_packs (d9 + 1) k9 n9 [.ref 1000, .int p0, .int p1, .ref 4500] h (fun o' g => o' = .inl (some (.int (lw_k [eIAE] o))) ∧ g = lw_g h2 F o (fun v => lw_B v)) := by
  refine XMetH.of hl rfl rfl (Nat.le_of_ble_eq_true rfl) (fun E g q => by cases q.1) (fun Y O HT hh hQ => ?_)
  show SW Y k9 n9 h 0 [.ref 1000, .int p0, .int p1, .ref 4500, xx_d] []
  refine sw_aload_n O (xx_dt dd_L_packs 0 rfl) rfl ?_
  refine sw_aload_n O (xx_dt dd_L_packs 1 rfl) rfl ?_
  refine sw_iload_n O (xx_dt dd_L_packs 2 rfl) rfl ?_
  refine sw_iload_n O (xx_dt dd_L_packs 3 rfl) rfl ?_
  refine xx_wid (k' := 0 + k9) (n' := 0 + n9) (by omega) (by omega) (sw_callVc (hh := hh_L_packs) (as := [.int p0, .int p1]) (st := [.ref 4500]) (k := 0) (n := 0) O hC ce_X7_packs ml_L_69 iv_X7_packs cl_X7 rfl h0 (xx_dt dd_L_packs 4 rfl) (Nat.le_refl _) rfl rfl (Nat.le_of_ble_eq_true rfl) (fun v h' q _ => ?_) HT (fun E h' q _ => ?_))
  · obtain ⟨q1, rfl⟩ := q
    cases o with
    | inr E => cases q1
    | inl w =>
      cases q1
      show SW Y 0 0 h' 7 [.ref 1000, .int p0, .int p1, .ref 4500, xx_d] [.int w, .ref 4500]
      refine sw_if_eq (tgt := 14) O (xx_dt dd_L_packs 5 rfl) (by decide) (fun q9 => ?_) (fun q9 => ?_)
      · refine sw_lconst O (xx_dt dd_L_packs 8 rfl) ?_
        refine sw_put (h2 := xx_up h' 4500 (14, 2, updV F 0 (.long (Int64.ofNat (0 : Fin 2))))) O (xx_dt dd_L_packs 9 rfl) cl_X8 fl_L_13 hO (by decide) (by omega) rfl (fun _ => ⟨rfl, rfl⟩) rfl ?_
        refine sw_goto (tgt := 25) O (xx_dt dd_L_packs 10 rfl) (by decide) ?_
        refine sw_iconst (x := 0) O (xx_dt dd_L_packs 14 rfl) (by decide) ?_
        exact sw_iret O (xx_dt dd_L_packs 15 rfl) rfl rfl (by rw [hQ]; exact ⟨rfl, by show _ = xx_up h' 4500 (14, 2, updV F 0 (.long (lw_B w))); unfold lw_B; rw [if_pos q9]⟩)
      · refine sw_lconst O (xx_dt dd_L_packs 6 rfl) ?_
        refine sw_goto (tgt := 15) O (xx_dt dd_L_packs 7 rfl) (by decide) ?_
        refine sw_put (h2 := xx_up h' 4500 (14, 2, updV F 0 (.long (Int64.ofNat (1 : Fin 2))))) O (xx_dt dd_L_packs 9 rfl) cl_X8 fl_L_13 hO (by decide) (by omega) rfl (fun _ => ⟨rfl, rfl⟩) rfl ?_
        refine sw_goto (tgt := 25) O (xx_dt dd_L_packs 10 rfl) (by decide) ?_
        refine sw_iconst (x := 0) O (xx_dt dd_L_packs 14 rfl) (by decide) ?_
        exact sw_iret O (xx_dt dd_L_packs 15 rfl) rfl rfl (by rw [hQ]; exact ⟨rfl, by show _ = xx_up h' 4500 (14, 2, updV F 0 (.long (lw_B w))); unfold lw_B; rw [if_neg q9]⟩)
  · obtain ⟨q1, rfl⟩ := q
    cases o with
    | inl w => cases q1
    | inr E9 =>
      cases q1
      obtain rfl := hE _ rfl
      refine ⟨21, ⟨[], ⟨0, 18, 21, 19⟩, [], rfl, fun z hz => absurd hz List.not_mem_nil, rfl, by decide, ck_L_19, ex_IAE, rfl⟩, ?_⟩
      refine .inl ⟨4, (xx_dt dd_L_packs 11 rfl), by decide, ?_⟩
      show SW Y 0 0 h' 23 [.ref 1000, .int p0, .int p1, .ref 4500, xx_d] []
      refine sw_iconst (x := 1) O (xx_dt dd_L_packs 12 rfl) (by decide) ?_
      exact sw_iret O (xx_dt dd_L_packs 13 rfl) rfl rfl (by rw [hQ]; exact ⟨rfl, rfl⟩)
theorem lw_channel {l : Launch} {h h2 : XH} (hl : l.stackTraces = false) {d9 k9 n9 : Nat} {p0 p1 p2 : Int32} {o : Int32 ⊕ String} {f0 F : Nat → Value} (hC : XEo l m_X7_channel d9 k9 n9 [.ref 1000, .int p0, .int p1, .int p2] h (xoi o) h2) (h0 : h 1000 = some (13, 12, f0)) (hO : h2 4500 = some (14, 2, F)) (hE : ∀ E, o = .inr E → E = eIOB ∨ E = eIAE) : XMetH l m_L_channel hh_L_channel (d9 + 1) k9 n9 [.ref 1000, .int p0, .int p1, .int p2, .ref 4500] h (fun o' g => o' = .inl (some (.int (lw_k [eIOB, eIAE] o))) ∧ g = lw_g h2 F o Int32.toInt64) := by
  refine XMetH.of hl rfl rfl (Nat.le_of_ble_eq_true rfl) (fun E g q => by cases q.1) (fun Y O HT hh hQ => ?_)
  show SW Y k9 n9 h 0 [.ref 1000, .int p0, .int p1, .int p2, .ref 4500, xx_d] []
  refine sw_aload O (xx_dt dd_L_channel 0 rfl) rfl ?_
  refine sw_aload_n O (xx_dt dd_L_channel 1 rfl) rfl ?_
  refine sw_iload_n O (xx_dt dd_L_channel 2 rfl) rfl ?_
  refine sw_iload_n O (xx_dt dd_L_channel 3 rfl) rfl ?_
  refine sw_iload_n O (xx_dt dd_L_channel 4 rfl) rfl ?_
  refine xx_wid (k' := 0 + k9) (n' := 0 + n9) (by omega) (by omega) (sw_callVc (hh := hh_L_channel) (as := [.int p0, .int p1, .int p2]) (st := [.ref 4500]) (k := 0) (n := 0) O hC ce_X7_channel ml_L_73 iv_X7_channel cl_X7 rfl h0 (xx_dt dd_L_channel 5 rfl) (Nat.le_refl _) rfl rfl (Nat.le_of_ble_eq_true rfl) (fun v h' q _ => ?_) HT (fun E h' q _ => ?_))
  · obtain ⟨q1, rfl⟩ := q
    cases o with
    | inr E => cases q1
    | inl w =>
      cases q1
      show SW Y 0 0 h' 9 [.ref 1000, .int p0, .int p1, .int p2, .ref 4500, xx_d] [.int w, .ref 4500]
      refine sw_i2l O (xx_dt dd_L_channel 6 rfl) ?_
      refine sw_put (h2 := xx_up h' 4500 (14, 2, updV F 0 (.long (Int32.toInt64 w)))) O (xx_dt dd_L_channel 7 rfl) cl_X8 fl_L_13 hO (by decide) (by omega) rfl (fun _ => ⟨rfl, rfl⟩) rfl ?_
      refine sw_goto (tgt := 24) O (xx_dt dd_L_channel 8 rfl) (by decide) ?_
      refine sw_iconst (x := 0) O (xx_dt dd_L_channel 15 rfl) (by decide) ?_
      exact sw_iret O (xx_dt dd_L_channel 16 rfl) rfl rfl (by rw [hQ]; exact ⟨rfl, rfl⟩)
  · obtain ⟨q1, rfl⟩ := q
    cases o with
    | inl w => cases q1
    | inr E9 =>
      cases q1
      rcases hE _ rfl with rfl | rfl
      · refine ⟨16, ⟨[], ⟨0, 13, 16, 27⟩, [⟨0, 13, 20, 19⟩], rfl, fun z hz => absurd hz List.not_mem_nil, rfl, by decide, ck_L_27, ex_IOB, rfl⟩, ?_⟩
        refine .inl ⟨5, (xx_dt dd_L_channel 9 rfl), by decide, ?_⟩
        show SW Y 0 0 h' 18 [.ref 1000, .int p0, .int p1, .int p2, .ref 4500, xx_d] []
        refine sw_iconst (x := 1) O (xx_dt dd_L_channel 10 rfl) (by decide) ?_
        exact sw_iret O (xx_dt dd_L_channel 11 rfl) rfl rfl (by rw [hQ]; exact ⟨rfl, rfl⟩)
      · refine ⟨20, ⟨[⟨0, 13, 16, 27⟩], ⟨0, 13, 20, 19⟩, [], rfl, fun z hz => by
          simp only [List.mem_cons, List.not_mem_nil, or_false] at hz
          rcases hz with rfl
          · exact ⟨by decide, _, ck_L_27, (.head _)⟩, rfl, by decide, ck_L_19, ex_IAE, rfl⟩, ?_⟩
        refine .inl ⟨5, (xx_dt dd_L_channel 12 rfl), by decide, ?_⟩
        show SW Y 0 0 h' 22 [.ref 1000, .int p0, .int p1, .int p2, .ref 4500, xx_d] []
        refine sw_iconst (x := 2) O (xx_dt dd_L_channel 13 rfl) (by decide) ?_
        exact sw_iret O (xx_dt dd_L_channel 14 rfl) rfl rfl (by rw [hQ]; exact ⟨rfl, rfl⟩)
theorem lw_clear {l : Launch} {h h2 : XH} (hl : l.stackTraces = false) {d9 k9 n9 : Nat} {p0 : Int32} {o : Int32 ⊕ String} {f0 F : Nat → Value} (hC : XEo l m_X7_clear d9 k9 n9 [.ref 1000, .int p0] h (xoi o) h2) (h0 : h 1000 = some (13, 12, f0)) (hO : h2 4500 = some (14, 2, F)) (hE : ∀ E, o = .inr E → E = eIAE) : XMetH l m_L_clear hh_L_clear (d9 + 1) k9 n9 [.ref 1000, .int p0, .ref 4500] h (fun o' g => o' = .inl (some (.int (lw_k [eIAE] o))) ∧ g = lw_g h2 F o Int32.toInt64) := by
  refine XMetH.of hl rfl rfl (Nat.le_of_ble_eq_true rfl) (fun E g q => by cases q.1) (fun Y O HT hh hQ => ?_)
  show SW Y k9 n9 h 0 [.ref 1000, .int p0, .ref 4500, xx_d] []
  refine sw_aload_n O (xx_dt dd_L_clear 0 rfl) rfl ?_
  refine sw_aload_n O (xx_dt dd_L_clear 1 rfl) rfl ?_
  refine sw_iload_n O (xx_dt dd_L_clear 2 rfl) rfl ?_
  refine xx_wid (k' := 0 + k9) (n' := 0 + n9) (by omega) (by omega) (sw_callVc (hh := hh_L_clear) (as := [.int p0]) (st := [.ref 4500]) (k := 0) (n := 0) O hC ce_X7_clear ml_L_76 iv_X7_clear cl_X7 rfl h0 (xx_dt dd_L_clear 3 rfl) (Nat.le_refl _) rfl rfl (Nat.le_of_ble_eq_true rfl) (fun v h' q _ => ?_) HT (fun E h' q _ => ?_))
  · obtain ⟨q1, rfl⟩ := q
    cases o with
    | inr E => cases q1
    | inl w =>
      cases q1
      show SW Y 0 0 h' 6 [.ref 1000, .int p0, .ref 4500, xx_d] [.int w, .ref 4500]
      refine sw_i2l O (xx_dt dd_L_clear 4 rfl) ?_
      refine sw_put (h2 := xx_up h' 4500 (14, 2, updV F 0 (.long (Int32.toInt64 w)))) O (xx_dt dd_L_clear 5 rfl) cl_X8 fl_L_13 hO (by decide) (by omega) rfl (fun _ => ⟨rfl, rfl⟩) rfl ?_
      refine sw_goto (tgt := 16) O (xx_dt dd_L_clear 6 rfl) (by decide) ?_
      refine sw_iconst (x := 0) O (xx_dt dd_L_clear 10 rfl) (by decide) ?_
      exact sw_iret O (xx_dt dd_L_clear 11 rfl) rfl rfl (by rw [hQ]; exact ⟨rfl, rfl⟩)
  · obtain ⟨q1, rfl⟩ := q
    cases o with
    | inl w => cases q1
    | inr E9 =>
      cases q1
      obtain rfl := hE _ rfl
      refine ⟨13, ⟨[], ⟨0, 10, 13, 19⟩, [], rfl, fun z hz => absurd hz List.not_mem_nil, rfl, by decide, ck_L_19, ex_IAE, rfl⟩, ?_⟩
      refine .inr ⟨3, (xx_dt dd_L_clear 7 rfl), by decide, ?_⟩
      show SW Y 0 0 h' 14 [.ref 1000, .int p0, .ref 4500, xx_d] []
      refine sw_iconst (x := 1) O (xx_dt dd_L_clear 8 rfl) (by decide) ?_
      exact sw_iret O (xx_dt dd_L_clear 9 rfl) rfl rfl (by rw [hQ]; exact ⟨rfl, rfl⟩)
theorem lw_ofRegion {l : Launch} {h h2 : XH} (hl : l.stackTraces = false) {d9 k9 n9 : Nat} {p0 p1 : Int32} {o : Int32 ⊕ String} {f0 F : Nat → Value} (hC : XEo l m_X7_ofRegion d9 k9 n9 [.ref 1000, .int p0, .int p1] h (xoi o) h2) (h0 : h 1000 = some (13, 12, f0)) (hO : h2 4500 = some (14, 2, F)) (hE : ∀ E, o = .inr E → E = eIOB ∨ E = eIAE) : XMetH l m_L_ofRegion hh_L_ofRegion (d9 + 1) k9 n9 [.ref 1000, .int p0, .int p1, .ref 4500] h (fun o' g => o' = .inl (some (.int (lw_k [eIOB, eIAE] o))) ∧ g = lw_g h2 F o Int32.toInt64) := by
  refine XMetH.of hl rfl rfl (Nat.le_of_ble_eq_true rfl) (fun E g q => by cases q.1) (fun Y O HT hh hQ => ?_)
  show SW Y k9 n9 h 0 [.ref 1000, .int p0, .int p1, .ref 4500, xx_d] []
  refine sw_aload_n O (xx_dt dd_L_ofRegion 0 rfl) rfl ?_
  refine sw_aload_n O (xx_dt dd_L_ofRegion 1 rfl) rfl ?_
  refine sw_iload_n O (xx_dt dd_L_ofRegion 2 rfl) rfl ?_
  refine sw_iload_n O (xx_dt dd_L_ofRegion 3 rfl) rfl ?_
  refine xx_wid (k' := 0 + k9) (n' := 0 + n9) (by omega) (by omega) (sw_callVc (hh := hh_L_ofRegion) (as := [.int p0, .int p1]) (st := [.ref 4500]) (k := 0) (n := 0) O hC ce_X7_ofRegion ml_L_79 iv_X7_ofRegion cl_X7 rfl h0 (xx_dt dd_L_ofRegion 4 rfl) (Nat.le_refl _) rfl rfl (Nat.le_of_ble_eq_true rfl) (fun v h' q _ => ?_) HT (fun E h' q _ => ?_))
  · obtain ⟨q1, rfl⟩ := q
    cases o with
    | inr E => cases q1
    | inl w =>
      cases q1
      show SW Y 0 0 h' 7 [.ref 1000, .int p0, .int p1, .ref 4500, xx_d] [.int w, .ref 4500]
      refine sw_i2l O (xx_dt dd_L_ofRegion 5 rfl) ?_
      refine sw_put (h2 := xx_up h' 4500 (14, 2, updV F 0 (.long (Int32.toInt64 w)))) O (xx_dt dd_L_ofRegion 6 rfl) cl_X8 fl_L_13 hO (by decide) (by omega) rfl (fun _ => ⟨rfl, rfl⟩) rfl ?_
      refine sw_goto (tgt := 22) O (xx_dt dd_L_ofRegion 7 rfl) (by decide) ?_
      refine sw_iconst (x := 0) O (xx_dt dd_L_ofRegion 14 rfl) (by decide) ?_
      exact sw_iret O (xx_dt dd_L_ofRegion 15 rfl) rfl rfl (by rw [hQ]; exact ⟨rfl, rfl⟩)
  · obtain ⟨q1, rfl⟩ := q
    cases o with
    | inl w => cases q1
    | inr E9 =>
      cases q1
      rcases hE _ rfl with rfl | rfl
      · refine ⟨14, ⟨[], ⟨0, 11, 14, 27⟩, [⟨0, 11, 18, 19⟩], rfl, fun z hz => absurd hz List.not_mem_nil, rfl, by decide, ck_L_27, ex_IOB, rfl⟩, ?_⟩
        refine .inl ⟨4, (xx_dt dd_L_ofRegion 8 rfl), by decide, ?_⟩
        show SW Y 0 0 h' 16 [.ref 1000, .int p0, .int p1, .ref 4500, xx_d] []
        refine sw_iconst (x := 1) O (xx_dt dd_L_ofRegion 9 rfl) (by decide) ?_
        exact sw_iret O (xx_dt dd_L_ofRegion 10 rfl) rfl rfl (by rw [hQ]; exact ⟨rfl, rfl⟩)
      · refine ⟨18, ⟨[⟨0, 11, 14, 27⟩], ⟨0, 11, 18, 19⟩, [], rfl, fun z hz => by
          simp only [List.mem_cons, List.not_mem_nil, or_false] at hz
          rcases hz with rfl
          · exact ⟨by decide, _, ck_L_27, (.head _)⟩, rfl, by decide, ck_L_19, ex_IAE, rfl⟩, ?_⟩
        refine .inl ⟨4, (xx_dt dd_L_ofRegion 11 rfl), by decide, ?_⟩
        show SW Y 0 0 h' 20 [.ref 1000, .int p0, .int p1, .ref 4500, xx_d] []
        refine sw_iconst (x := 2) O (xx_dt dd_L_ofRegion 12 rfl) (by decide) ?_
        exact sw_iret O (xx_dt dd_L_ofRegion 13 rfl) rfl rfl (by rw [hQ]; exact ⟨rfl, rfl⟩)
theorem lw_ofBidder {l : Launch} {h h2 : XH} (hl : l.stackTraces = false) {d9 k9 n9 : Nat} {p0 p1 : Int32} {o : Int32 ⊕ String} {f0 F : Nat → Value} (hC : XEo l m_X7_ofBidder d9 k9 n9 [.ref 1000, .int p0, .int p1] h (xoi o) h2) (h0 : h 1000 = some (13, 12, f0)) (hO : h2 4500 = some (14, 2, F)) (hE : ∀ E, o = .inr E → E = eIOB ∨ E = eIAE) : XMetH l m_L_ofBidder hh_L_ofBidder (d9 + 1) k9 n9 [.ref 1000, .int p0, .int p1, .ref 4500] h (fun o' g => o' = .inl (some (.int (lw_k [eIOB, eIAE] o))) ∧ g = lw_g h2 F o Int32.toInt64) := by
  refine XMetH.of hl rfl rfl (Nat.le_of_ble_eq_true rfl) (fun E g q => by cases q.1) (fun Y O HT hh hQ => ?_)
  show SW Y k9 n9 h 0 [.ref 1000, .int p0, .int p1, .ref 4500, xx_d] []
  refine sw_aload_n O (xx_dt dd_L_ofBidder 0 rfl) rfl ?_
  refine sw_aload_n O (xx_dt dd_L_ofBidder 1 rfl) rfl ?_
  refine sw_iload_n O (xx_dt dd_L_ofBidder 2 rfl) rfl ?_
  refine sw_iload_n O (xx_dt dd_L_ofBidder 3 rfl) rfl ?_
  refine xx_wid (k' := 0 + k9) (n' := 0 + n9) (by omega) (by omega) (sw_callVc (hh := hh_L_ofBidder) (as := [.int p0, .int p1]) (st := [.ref 4500]) (k := 0) (n := 0) O hC ce_X7_ofBidder ml_L_82 iv_X7_ofBidder cl_X7 rfl h0 (xx_dt dd_L_ofBidder 4 rfl) (Nat.le_refl _) rfl rfl (Nat.le_of_ble_eq_true rfl) (fun v h' q _ => ?_) HT (fun E h' q _ => ?_))
  · obtain ⟨q1, rfl⟩ := q
    cases o with
    | inr E => cases q1
    | inl w =>
      cases q1
      show SW Y 0 0 h' 7 [.ref 1000, .int p0, .int p1, .ref 4500, xx_d] [.int w, .ref 4500]
      refine sw_i2l O (xx_dt dd_L_ofBidder 5 rfl) ?_
      refine sw_put (h2 := xx_up h' 4500 (14, 2, updV F 0 (.long (Int32.toInt64 w)))) O (xx_dt dd_L_ofBidder 6 rfl) cl_X8 fl_L_13 hO (by decide) (by omega) rfl (fun _ => ⟨rfl, rfl⟩) rfl ?_
      refine sw_goto (tgt := 22) O (xx_dt dd_L_ofBidder 7 rfl) (by decide) ?_
      refine sw_iconst (x := 0) O (xx_dt dd_L_ofBidder 14 rfl) (by decide) ?_
      exact sw_iret O (xx_dt dd_L_ofBidder 15 rfl) rfl rfl (by rw [hQ]; exact ⟨rfl, rfl⟩)
  · obtain ⟨q1, rfl⟩ := q
    cases o with
    | inl w => cases q1
    | inr E9 =>
      cases q1
      rcases hE _ rfl with rfl | rfl
      · refine ⟨14, ⟨[], ⟨0, 11, 14, 27⟩, [⟨0, 11, 18, 19⟩], rfl, fun z hz => absurd hz List.not_mem_nil, rfl, by decide, ck_L_27, ex_IOB, rfl⟩, ?_⟩
        refine .inl ⟨4, (xx_dt dd_L_ofBidder 8 rfl), by decide, ?_⟩
        show SW Y 0 0 h' 16 [.ref 1000, .int p0, .int p1, .ref 4500, xx_d] []
        refine sw_iconst (x := 1) O (xx_dt dd_L_ofBidder 9 rfl) (by decide) ?_
        exact sw_iret O (xx_dt dd_L_ofBidder 10 rfl) rfl rfl (by rw [hQ]; exact ⟨rfl, rfl⟩)
      · refine ⟨18, ⟨[⟨0, 11, 14, 27⟩], ⟨0, 11, 18, 19⟩, [], rfl, fun z hz => by
          simp only [List.mem_cons, List.not_mem_nil, or_false] at hz
          rcases hz with rfl
          · exact ⟨by decide, _, ck_L_27, (.head _)⟩, rfl, by decide, ck_L_19, ex_IAE, rfl⟩, ?_⟩
        refine .inl ⟨4, (xx_dt dd_L_ofBidder 11 rfl), by decide, ?_⟩
        show SW Y 0 0 h' 20 [.ref 1000, .int p0, .int p1, .ref 4500, xx_d] []
        refine sw_iconst (x := 2) O (xx_dt dd_L_ofBidder 12 rfl) (by decide) ?_
        exact sw_iret O (xx_dt dd_L_ofBidder 13 rfl) rfl rfl (by rw [hQ]; exact ⟨rfl, rfl⟩)
theorem lw_wants {l : Launch} {h h2 : XH} (hl : l.stackTraces = false) {d9 k9 n9 : Nat} {p0 p1 p2 : Int32} {o : Int32 ⊕ String} {f0 F : Nat → Value} (hC : XEo l m_X7_wants d9 k9 n9 [.ref 1000, .int p0, .int p1, .int p2] h (xoi o) h2) (h0 : h 1000 = some (13, 12, f0)) (hO : h2 4500 = some (14, 2, F)) (hE : ∀ E, o = .inr E → E = eIOB) : XMetH l m_L_wants hh_L_wants (d9 + 1) k9 n9 [.ref 1000, .int p0, .int p1, .int p2, .ref 4500] h (fun o' g => o' = .inl (some (.int (lw_k [eIOB] o))) ∧ g = lw_g h2 F o Int32.toInt64) := by
  refine XMetH.of hl rfl rfl (Nat.le_of_ble_eq_true rfl) (fun E g q => by cases q.1) (fun Y O HT hh hQ => ?_)
  show SW Y k9 n9 h 0 [.ref 1000, .int p0, .int p1, .int p2, .ref 4500, xx_d] []
  refine sw_aload O (xx_dt dd_L_wants 0 rfl) rfl ?_
  refine sw_aload_n O (xx_dt dd_L_wants 1 rfl) rfl ?_
  refine sw_iload_n O (xx_dt dd_L_wants 2 rfl) rfl ?_
  refine sw_iload_n O (xx_dt dd_L_wants 3 rfl) rfl ?_
  refine sw_iload_n O (xx_dt dd_L_wants 4 rfl) rfl ?_
  refine xx_wid (k' := 0 + k9) (n' := 0 + n9) (by omega) (by omega) (sw_callVc (hh := hh_L_wants) (as := [.int p0, .int p1, .int p2]) (st := [.ref 4500]) (k := 0) (n := 0) O hC ce_X7_wants ml_L_85 iv_X7_wants cl_X7 rfl h0 (xx_dt dd_L_wants 5 rfl) (Nat.le_refl _) rfl rfl (Nat.le_of_ble_eq_true rfl) (fun v h' q _ => ?_) HT (fun E h' q _ => ?_))
  · obtain ⟨q1, rfl⟩ := q
    cases o with
    | inr E => cases q1
    | inl w =>
      cases q1
      show SW Y 0 0 h' 9 [.ref 1000, .int p0, .int p1, .int p2, .ref 4500, xx_d] [.int w, .ref 4500]
      refine sw_i2l O (xx_dt dd_L_wants 6 rfl) ?_
      refine sw_put (h2 := xx_up h' 4500 (14, 2, updV F 0 (.long (Int32.toInt64 w)))) O (xx_dt dd_L_wants 7 rfl) cl_X8 fl_L_13 hO (by decide) (by omega) rfl (fun _ => ⟨rfl, rfl⟩) rfl ?_
      refine sw_goto (tgt := 20) O (xx_dt dd_L_wants 8 rfl) (by decide) ?_
      refine sw_iconst (x := 0) O (xx_dt dd_L_wants 12 rfl) (by decide) ?_
      exact sw_iret O (xx_dt dd_L_wants 13 rfl) rfl rfl (by rw [hQ]; exact ⟨rfl, rfl⟩)
  · obtain ⟨q1, rfl⟩ := q
    cases o with
    | inl w => cases q1
    | inr E9 =>
      cases q1
      obtain rfl := hE _ rfl
      refine ⟨16, ⟨[], ⟨0, 13, 16, 27⟩, [], rfl, fun z hz => absurd hz List.not_mem_nil, rfl, by decide, ck_L_27, ex_IOB, rfl⟩, ?_⟩
      refine .inl ⟨5, (xx_dt dd_L_wants 9 rfl), by decide, ?_⟩
      show SW Y 0 0 h' 18 [.ref 1000, .int p0, .int p1, .int p2, .ref 4500, xx_d] []
      refine sw_iconst (x := 1) O (xx_dt dd_L_wants 10 rfl) (by decide) ?_
      exact sw_iret O (xx_dt dd_L_wants 11 rfl) rfl rfl (by rw [hQ]; exact ⟨rfl, rfl⟩)
theorem lw_priceIn {l : Launch} {h h2 : XH} (hl : l.stackTraces = false) {d9 k9 n9 : Nat} {p0 p1 : Int32} {o : Int32 ⊕ String} {f0 F : Nat → Value} (hC : XEo l m_X7_priceIn d9 k9 n9 [.ref 1000, .int p0, .int p1] h (xoi o) h2) (h0 : h 1000 = some (13, 12, f0)) (hO : h2 4500 = some (14, 2, F)) (hE : ∀ E, o = .inr E → E = eIOB) : XMetH l m_L_priceIn hh_L_priceIn (d9 + 1) k9 n9 [.ref 1000, .int p0, .int p1, .ref 4500] h (fun o' g => o' = .inl (some (.int (lw_k [eIOB] o))) ∧ g = lw_g h2 F o Int32.toInt64) := by
  refine XMetH.of hl rfl rfl (Nat.le_of_ble_eq_true rfl) (fun E g q => by cases q.1) (fun Y O HT hh hQ => ?_)
  show SW Y k9 n9 h 0 [.ref 1000, .int p0, .int p1, .ref 4500, xx_d] []
  refine sw_aload_n O (xx_dt dd_L_priceIn 0 rfl) rfl ?_
  refine sw_aload_n O (xx_dt dd_L_priceIn 1 rfl) rfl ?_
  refine sw_iload_n O (xx_dt dd_L_priceIn 2 rfl) rfl ?_
  refine sw_iload_n O (xx_dt dd_L_priceIn 3 rfl) rfl ?_
  refine xx_wid (k' := 0 + k9) (n' := 0 + n9) (by omega) (by omega) (sw_callVc (hh := hh_L_priceIn) (as := [.int p0, .int p1]) (st := [.ref 4500]) (k := 0) (n := 0) O hC ce_X7_priceIn ml_L_89 iv_X7_priceIn cl_X7 rfl h0 (xx_dt dd_L_priceIn 4 rfl) (Nat.le_refl _) rfl rfl (Nat.le_of_ble_eq_true rfl) (fun v h' q _ => ?_) HT (fun E h' q _ => ?_))
  · obtain ⟨q1, rfl⟩ := q
    cases o with
    | inr E => cases q1
    | inl w =>
      cases q1
      show SW Y 0 0 h' 7 [.ref 1000, .int p0, .int p1, .ref 4500, xx_d] [.int w, .ref 4500]
      refine sw_i2l O (xx_dt dd_L_priceIn 5 rfl) ?_
      refine sw_put (h2 := xx_up h' 4500 (14, 2, updV F 0 (.long (Int32.toInt64 w)))) O (xx_dt dd_L_priceIn 6 rfl) cl_X8 fl_L_13 hO (by decide) (by omega) rfl (fun _ => ⟨rfl, rfl⟩) rfl ?_
      refine sw_goto (tgt := 18) O (xx_dt dd_L_priceIn 7 rfl) (by decide) ?_
      refine sw_iconst (x := 0) O (xx_dt dd_L_priceIn 11 rfl) (by decide) ?_
      exact sw_iret O (xx_dt dd_L_priceIn 12 rfl) rfl rfl (by rw [hQ]; exact ⟨rfl, rfl⟩)
  · obtain ⟨q1, rfl⟩ := q
    cases o with
    | inl w => cases q1
    | inr E9 =>
      cases q1
      obtain rfl := hE _ rfl
      refine ⟨14, ⟨[], ⟨0, 11, 14, 27⟩, [], rfl, fun z hz => absurd hz List.not_mem_nil, rfl, by decide, ck_L_27, ex_IOB, rfl⟩, ?_⟩
      refine .inl ⟨4, (xx_dt dd_L_priceIn 8 rfl), by decide, ?_⟩
      show SW Y 0 0 h' 16 [.ref 1000, .int p0, .int p1, .ref 4500, xx_d] []
      refine sw_iconst (x := 1) O (xx_dt dd_L_priceIn 9 rfl) (by decide) ?_
      exact sw_iret O (xx_dt dd_L_priceIn 10 rfl) rfl rfl (by rw [hQ]; exact ⟨rfl, rfl⟩)
theorem lw_codeIn {l : Launch} {h h2 : XH} (hl : l.stackTraces = false) {d9 k9 n9 : Nat} {p0 p1 p2 : Int32} {o : Int32 ⊕ String} {f0 F : Nat → Value} (hC : XEo l m_X7_codeIn d9 k9 n9 [.ref 1000, .int p0, .int p1, .int p2] h (xoi o) h2) (h0 : h 1000 = some (13, 12, f0)) (hO : h2 4500 = some (14, 2, F)) (hE : ∀ E, o = .inr E → E = eIOB) : XMetH l m_L_codeIn hh_L_codeIn (d9 + 1) k9 n9 [.ref 1000, .int p0, .int p1, .int p2, .ref 4500] h (fun o' g => o' = .inl (some (.int (lw_k [eIOB] o))) ∧ g = lw_g h2 F o Int32.toInt64) := by
  refine XMetH.of hl rfl rfl (Nat.le_of_ble_eq_true rfl) (fun E g q => by cases q.1) (fun Y O HT hh hQ => ?_)
  show SW Y k9 n9 h 0 [.ref 1000, .int p0, .int p1, .int p2, .ref 4500, xx_d] []
  refine sw_aload O (xx_dt dd_L_codeIn 0 rfl) rfl ?_
  refine sw_aload_n O (xx_dt dd_L_codeIn 1 rfl) rfl ?_
  refine sw_iload_n O (xx_dt dd_L_codeIn 2 rfl) rfl ?_
  refine sw_iload_n O (xx_dt dd_L_codeIn 3 rfl) rfl ?_
  refine sw_iload_n O (xx_dt dd_L_codeIn 4 rfl) rfl ?_
  refine xx_wid (k' := 0 + k9) (n' := 0 + n9) (by omega) (by omega) (sw_callVc (hh := hh_L_codeIn) (as := [.int p0, .int p1, .int p2]) (st := [.ref 4500]) (k := 0) (n := 0) O hC ce_X7_codeIn ml_L_92 iv_X7_codeIn cl_X7 rfl h0 (xx_dt dd_L_codeIn 5 rfl) (Nat.le_refl _) rfl rfl (Nat.le_of_ble_eq_true rfl) (fun v h' q _ => ?_) HT (fun E h' q _ => ?_))
  · obtain ⟨q1, rfl⟩ := q
    cases o with
    | inr E => cases q1
    | inl w =>
      cases q1
      show SW Y 0 0 h' 9 [.ref 1000, .int p0, .int p1, .int p2, .ref 4500, xx_d] [.int w, .ref 4500]
      refine sw_i2l O (xx_dt dd_L_codeIn 6 rfl) ?_
      refine sw_put (h2 := xx_up h' 4500 (14, 2, updV F 0 (.long (Int32.toInt64 w)))) O (xx_dt dd_L_codeIn 7 rfl) cl_X8 fl_L_13 hO (by decide) (by omega) rfl (fun _ => ⟨rfl, rfl⟩) rfl ?_
      refine sw_goto (tgt := 20) O (xx_dt dd_L_codeIn 8 rfl) (by decide) ?_
      refine sw_iconst (x := 0) O (xx_dt dd_L_codeIn 12 rfl) (by decide) ?_
      exact sw_iret O (xx_dt dd_L_codeIn 13 rfl) rfl rfl (by rw [hQ]; exact ⟨rfl, rfl⟩)
  · obtain ⟨q1, rfl⟩ := q
    cases o with
    | inl w => cases q1
    | inr E9 =>
      cases q1
      obtain rfl := hE _ rfl
      refine ⟨16, ⟨[], ⟨0, 13, 16, 27⟩, [], rfl, fun z hz => absurd hz List.not_mem_nil, rfl, by decide, ck_L_27, ex_IOB, rfl⟩, ?_⟩
      refine .inl ⟨5, (xx_dt dd_L_codeIn 9 rfl), by decide, ?_⟩
      show SW Y 0 0 h' 18 [.ref 1000, .int p0, .int p1, .int p2, .ref 4500, xx_d] []
      refine sw_iconst (x := 1) O (xx_dt dd_L_codeIn 10 rfl) (by decide) ?_
      exact sw_iret O (xx_dt dd_L_codeIn 11 rfl) rfl rfl (by rw [hQ]; exact ⟨rfl, rfl⟩)
theorem lw_ofPackage {l : Launch} {h h2 : XH} (hl : l.stackTraces = false) {d9 k9 n9 : Nat} {p0 p1 p2 : Int32} {o : Int32 ⊕ String} {f0 F : Nat → Value} (hC : XEo l m_X7_ofPackage d9 k9 n9 [.ref 1000, .int p0, .int p1, .int p2] h (xoi o) h2) (h0 : h 1000 = some (13, 12, f0)) (hO : h2 4500 = some (14, 2, F)) (hE : ∀ E, o = .inr E → E = eIOB) : XMetH l m_L_ofPackage hh_L_ofPackage (d9 + 1) k9 n9 [.ref 1000, .int p0, .int p1, .int p2, .ref 4500] h (fun o' g => o' = .inl (some (.int (lw_k [eIOB] o))) ∧ g = lw_g h2 F o Int32.toInt64) := by
  refine XMetH.of hl rfl rfl (Nat.le_of_ble_eq_true rfl) (fun E g q => by cases q.1) (fun Y O HT hh hQ => ?_)
  show SW Y k9 n9 h 0 [.ref 1000, .int p0, .int p1, .int p2, .ref 4500, xx_d] []
  refine sw_aload O (xx_dt dd_L_ofPackage 0 rfl) rfl ?_
  refine sw_aload_n O (xx_dt dd_L_ofPackage 1 rfl) rfl ?_
  refine sw_iload_n O (xx_dt dd_L_ofPackage 2 rfl) rfl ?_
  refine sw_iload_n O (xx_dt dd_L_ofPackage 3 rfl) rfl ?_
  refine sw_iload_n O (xx_dt dd_L_ofPackage 4 rfl) rfl ?_
  refine xx_wid (k' := 0 + k9) (n' := 0 + n9) (by omega) (by omega) (sw_callVc (hh := hh_L_ofPackage) (as := [.int p0, .int p1, .int p2]) (st := [.ref 4500]) (k := 0) (n := 0) O hC ce_X7_ofPackage ml_L_95 iv_X7_ofPackage cl_X7 rfl h0 (xx_dt dd_L_ofPackage 5 rfl) (Nat.le_refl _) rfl rfl (Nat.le_of_ble_eq_true rfl) (fun v h' q _ => ?_) HT (fun E h' q _ => ?_))
  · obtain ⟨q1, rfl⟩ := q
    cases o with
    | inr E => cases q1
    | inl w =>
      cases q1
      show SW Y 0 0 h' 9 [.ref 1000, .int p0, .int p1, .int p2, .ref 4500, xx_d] [.int w, .ref 4500]
      refine sw_i2l O (xx_dt dd_L_ofPackage 6 rfl) ?_
      refine sw_put (h2 := xx_up h' 4500 (14, 2, updV F 0 (.long (Int32.toInt64 w)))) O (xx_dt dd_L_ofPackage 7 rfl) cl_X8 fl_L_13 hO (by decide) (by omega) rfl (fun _ => ⟨rfl, rfl⟩) rfl ?_
      refine sw_goto (tgt := 20) O (xx_dt dd_L_ofPackage 8 rfl) (by decide) ?_
      refine sw_iconst (x := 0) O (xx_dt dd_L_ofPackage 12 rfl) (by decide) ?_
      exact sw_iret O (xx_dt dd_L_ofPackage 13 rfl) rfl rfl (by rw [hQ]; exact ⟨rfl, rfl⟩)
  · obtain ⟨q1, rfl⟩ := q
    cases o with
    | inl w => cases q1
    | inr E9 =>
      cases q1
      obtain rfl := hE _ rfl
      refine ⟨16, ⟨[], ⟨0, 13, 16, 27⟩, [], rfl, fun z hz => absurd hz List.not_mem_nil, rfl, by decide, ck_L_27, ex_IOB, rfl⟩, ?_⟩
      refine .inl ⟨5, (xx_dt dd_L_ofPackage 9 rfl), by decide, ?_⟩
      show SW Y 0 0 h' 18 [.ref 1000, .int p0, .int p1, .int p2, .ref 4500, xx_d] []
      refine sw_iconst (x := 1) O (xx_dt dd_L_ofPackage 10 rfl) (by decide) ?_
      exact sw_iret O (xx_dt dd_L_ofPackage 11 rfl) rfl rfl (by rw [hQ]; exact ⟨rfl, rfl⟩)
theorem lw_wins {l : Launch} {h h2 : XH} (hl : l.stackTraces = false) {d9 k9 n9 : Nat} {p0 : Int32} {o : Int32 ⊕ String} {f0 F : Nat → Value} (hC : XEo l m_X7_wins d9 k9 n9 [.ref 1000, .int p0] h (xoi o) h2) (h0 : h 1000 = some (13, 12, f0)) (hO : h2 4500 = some (14, 2, F)) (hE : ∀ E, o = .inr E → E = eIOB) : XMetH l m_L_wins hh_L_wins (d9 + 1) k9 n9 [.ref 1000, .int p0, .ref 4500] h (fun o' g => o' = .inl (some (.int (lw_k [eIOB] o))) ∧ g = lw_g h2 F o Int32.toInt64) := by
  refine XMetH.of hl rfl rfl (Nat.le_of_ble_eq_true rfl) (fun E g q => by cases q.1) (fun Y O HT hh hQ => ?_)
  show SW Y k9 n9 h 0 [.ref 1000, .int p0, .ref 4500, xx_d] []
  refine sw_aload_n O (xx_dt dd_L_wins 0 rfl) rfl ?_
  refine sw_aload_n O (xx_dt dd_L_wins 1 rfl) rfl ?_
  refine sw_iload_n O (xx_dt dd_L_wins 2 rfl) rfl ?_
  refine xx_wid (k' := 0 + k9) (n' := 0 + n9) (by omega) (by omega) (sw_callVc (hh := hh_L_wins) (as := [.int p0]) (st := [.ref 4500]) (k := 0) (n := 0) O hC ce_X7_wins ml_L_98 iv_X7_wins cl_X7 rfl h0 (xx_dt dd_L_wins 3 rfl) (Nat.le_refl _) rfl rfl (Nat.le_of_ble_eq_true rfl) (fun v h' q _ => ?_) HT (fun E h' q _ => ?_))
  · obtain ⟨q1, rfl⟩ := q
    cases o with
    | inr E => cases q1
    | inl w =>
      cases q1
      show SW Y 0 0 h' 6 [.ref 1000, .int p0, .ref 4500, xx_d] [.int w, .ref 4500]
      refine sw_i2l O (xx_dt dd_L_wins 4 rfl) ?_
      refine sw_put (h2 := xx_up h' 4500 (14, 2, updV F 0 (.long (Int32.toInt64 w)))) O (xx_dt dd_L_wins 5 rfl) cl_X8 fl_L_13 hO (by decide) (by omega) rfl (fun _ => ⟨rfl, rfl⟩) rfl ?_
      refine sw_goto (tgt := 16) O (xx_dt dd_L_wins 6 rfl) (by decide) ?_
      refine sw_iconst (x := 0) O (xx_dt dd_L_wins 10 rfl) (by decide) ?_
      exact sw_iret O (xx_dt dd_L_wins 11 rfl) rfl rfl (by rw [hQ]; exact ⟨rfl, rfl⟩)
  · obtain ⟨q1, rfl⟩ := q
    cases o with
    | inl w => cases q1
    | inr E9 =>
      cases q1
      obtain rfl := hE _ rfl
      refine ⟨13, ⟨[], ⟨0, 10, 13, 27⟩, [], rfl, fun z hz => absurd hz List.not_mem_nil, rfl, by decide, ck_L_27, ex_IOB, rfl⟩, ?_⟩
      refine .inr ⟨3, (xx_dt dd_L_wins 7 rfl), by decide, ?_⟩
      show SW Y 0 0 h' 14 [.ref 1000, .int p0, .ref 4500, xx_d] []
      refine sw_iconst (x := 1) O (xx_dt dd_L_wins 8 rfl) (by decide) ?_
      exact sw_iret O (xx_dt dd_L_wins 9 rfl) rfl rfl (by rw [hQ]; exact ⟨rfl, rfl⟩)
theorem lw_pays {l : Launch} {h h2 : XH} (hl : l.stackTraces = false) {d9 k9 n9 : Nat} {p0 p1 : Int32} {o : Int32 ⊕ String} {f0 F : Nat → Value} (hC : XEo l m_X7_pays d9 k9 n9 [.ref 1000, .int p0, .int p1] h (xoi o) h2) (h0 : h 1000 = some (13, 12, f0)) (hO : h2 4500 = some (14, 2, F)) (hE : ∀ E, o = .inr E → E = eIOB) : XMetH l m_L_pays hh_L_pays (d9 + 1) k9 n9 [.ref 1000, .int p0, .int p1, .ref 4500] h (fun o' g => o' = .inl (some (.int (lw_k [eIOB] o))) ∧ g = lw_g h2 F o Int32.toInt64) := by
  refine XMetH.of hl rfl rfl (Nat.le_of_ble_eq_true rfl) (fun E g q => by cases q.1) (fun Y O HT hh hQ => ?_)
  show SW Y k9 n9 h 0 [.ref 1000, .int p0, .int p1, .ref 4500, xx_d] []
  refine sw_aload_n O (xx_dt dd_L_pays 0 rfl) rfl ?_
  refine sw_aload_n O (xx_dt dd_L_pays 1 rfl) rfl ?_
  refine sw_iload_n O (xx_dt dd_L_pays 2 rfl) rfl ?_
  refine sw_iload_n O (xx_dt dd_L_pays 3 rfl) rfl ?_
  refine xx_wid (k' := 0 + k9) (n' := 0 + n9) (by omega) (by omega) (sw_callVc (hh := hh_L_pays) (as := [.int p0, .int p1]) (st := [.ref 4500]) (k := 0) (n := 0) O hC ce_X7_pays ml_L_101 iv_X7_pays cl_X7 rfl h0 (xx_dt dd_L_pays 4 rfl) (Nat.le_refl _) rfl rfl (Nat.le_of_ble_eq_true rfl) (fun v h' q _ => ?_) HT (fun E h' q _ => ?_))
  · obtain ⟨q1, rfl⟩ := q
    cases o with
    | inr E => cases q1
    | inl w =>
      cases q1
      show SW Y 0 0 h' 7 [.ref 1000, .int p0, .int p1, .ref 4500, xx_d] [.int w, .ref 4500]
      refine sw_i2l O (xx_dt dd_L_pays 5 rfl) ?_
      refine sw_put (h2 := xx_up h' 4500 (14, 2, updV F 0 (.long (Int32.toInt64 w)))) O (xx_dt dd_L_pays 6 rfl) cl_X8 fl_L_13 hO (by decide) (by omega) rfl (fun _ => ⟨rfl, rfl⟩) rfl ?_
      refine sw_goto (tgt := 18) O (xx_dt dd_L_pays 7 rfl) (by decide) ?_
      refine sw_iconst (x := 0) O (xx_dt dd_L_pays 11 rfl) (by decide) ?_
      exact sw_iret O (xx_dt dd_L_pays 12 rfl) rfl rfl (by rw [hQ]; exact ⟨rfl, rfl⟩)
  · obtain ⟨q1, rfl⟩ := q
    cases o with
    | inl w => cases q1
    | inr E9 =>
      cases q1
      obtain rfl := hE _ rfl
      refine ⟨14, ⟨[], ⟨0, 11, 14, 27⟩, [], rfl, fun z hz => absurd hz List.not_mem_nil, rfl, by decide, ck_L_27, ex_IOB, rfl⟩, ?_⟩
      refine .inl ⟨4, (xx_dt dd_L_pays 8 rfl), by decide, ?_⟩
      show SW Y 0 0 h' 16 [.ref 1000, .int p0, .int p1, .ref 4500, xx_d] []
      refine sw_iconst (x := 1) O (xx_dt dd_L_pays 9 rfl) (by decide) ?_
      exact sw_iret O (xx_dt dd_L_pays 10 rfl) rfl rfl (by rw [hQ]; exact ⟨rfl, rfl⟩)
theorem lw_holder {l : Launch} {h h2 : XH} (hl : l.stackTraces = false) {d9 k9 n9 : Nat} {p0 p1 : Int32} {o : Int32 ⊕ String} {f0 F : Nat → Value} (hC : XEo l m_X7_holder d9 k9 n9 [.ref 1000, .int p0, .int p1] h (xoi o) h2) (h0 : h 1000 = some (13, 12, f0)) (hO : h2 4500 = some (14, 2, F)) (hE : ∀ E, o = .inr E → E = eIOB) : XMetH l m_L_holder hh_L_holder (d9 + 1) k9 n9 [.ref 1000, .int p0, .int p1, .ref 4500] h (fun o' g => o' = .inl (some (.int (lw_k [eIOB] o))) ∧ g = lw_g h2 F o Int32.toInt64) := by
  refine XMetH.of hl rfl rfl (Nat.le_of_ble_eq_true rfl) (fun E g q => by cases q.1) (fun Y O HT hh hQ => ?_)
  show SW Y k9 n9 h 0 [.ref 1000, .int p0, .int p1, .ref 4500, xx_d] []
  refine sw_aload_n O (xx_dt dd_L_holder 0 rfl) rfl ?_
  refine sw_aload_n O (xx_dt dd_L_holder 1 rfl) rfl ?_
  refine sw_iload_n O (xx_dt dd_L_holder 2 rfl) rfl ?_
  refine sw_iload_n O (xx_dt dd_L_holder 3 rfl) rfl ?_
  refine xx_wid (k' := 0 + k9) (n' := 0 + n9) (by omega) (by omega) (sw_callVc (hh := hh_L_holder) (as := [.int p0, .int p1]) (st := [.ref 4500]) (k := 0) (n := 0) O hC ce_X7_holder ml_L_104 iv_X7_holder cl_X7 rfl h0 (xx_dt dd_L_holder 4 rfl) (Nat.le_refl _) rfl rfl (Nat.le_of_ble_eq_true rfl) (fun v h' q _ => ?_) HT (fun E h' q _ => ?_))
  · obtain ⟨q1, rfl⟩ := q
    cases o with
    | inr E => cases q1
    | inl w =>
      cases q1
      show SW Y 0 0 h' 7 [.ref 1000, .int p0, .int p1, .ref 4500, xx_d] [.int w, .ref 4500]
      refine sw_i2l O (xx_dt dd_L_holder 5 rfl) ?_
      refine sw_put (h2 := xx_up h' 4500 (14, 2, updV F 0 (.long (Int32.toInt64 w)))) O (xx_dt dd_L_holder 6 rfl) cl_X8 fl_L_13 hO (by decide) (by omega) rfl (fun _ => ⟨rfl, rfl⟩) rfl ?_
      refine sw_goto (tgt := 18) O (xx_dt dd_L_holder 7 rfl) (by decide) ?_
      refine sw_iconst (x := 0) O (xx_dt dd_L_holder 11 rfl) (by decide) ?_
      exact sw_iret O (xx_dt dd_L_holder 12 rfl) rfl rfl (by rw [hQ]; exact ⟨rfl, rfl⟩)
  · obtain ⟨q1, rfl⟩ := q
    cases o with
    | inl w => cases q1
    | inr E9 =>
      cases q1
      obtain rfl := hE _ rfl
      refine ⟨14, ⟨[], ⟨0, 11, 14, 27⟩, [], rfl, fun z hz => absurd hz List.not_mem_nil, rfl, by decide, ck_L_27, ex_IOB, rfl⟩, ?_⟩
      refine .inl ⟨4, (xx_dt dd_L_holder 8 rfl), by decide, ?_⟩
      show SW Y 0 0 h' 16 [.ref 1000, .int p0, .int p1, .ref 4500, xx_d] []
      refine sw_iconst (x := 1) O (xx_dt dd_L_holder 9 rfl) (by decide) ?_
      exact sw_iret O (xx_dt dd_L_holder 10 rfl) rfl rfl (by rw [hQ]; exact ⟨rfl, rfl⟩)
theorem lw_chart {l : Launch} {h h2 : XH} (hl : l.stackTraces = false) {d9 k9 n9 : Nat} {p0 : Int32} {o : Nat ⊕ String} {f0 F : Nat → Value} (hC : XEo l m_X7_chart d9 k9 n9 [.ref 1000, .int p0] h (xor o) h2) (h0 : h 1000 = some (13, 12, f0)) (hO : h2 4500 = some (14, 2, F)) (hE : ∀ E, o = .inr E → E = eIOB) : XMetH l m_L_chart hh_L_chart (d9 + 1) k9 n9 [.ref 1000, .int p0, .ref 4500] h (fun o' g => o' = .inl (some (.int (lw_k [eIOB] o))) ∧ g = lw_gs h2 F o) := by
  refine XMetH.of hl rfl rfl (Nat.le_of_ble_eq_true rfl) (fun E g q => by cases q.1) (fun Y O HT hh hQ => ?_)
  show SW Y k9 n9 h 0 [.ref 1000, .int p0, .ref 4500, xx_d] []
  refine sw_aload_n O (xx_dt dd_L_chart 0 rfl) rfl ?_
  refine sw_aload_n O (xx_dt dd_L_chart 1 rfl) rfl ?_
  refine sw_iload_n O (xx_dt dd_L_chart 2 rfl) rfl ?_
  refine xx_wid (k' := 0 + k9) (n' := 0 + n9) (by omega) (by omega) (sw_callVc (hh := hh_L_chart) (as := [.int p0]) (st := [.ref 4500]) (k := 0) (n := 0) O hC ce_X7_chart ml_L_107 iv_X7_chart cl_X7 rfl h0 (xx_dt dd_L_chart 3 rfl) (Nat.le_refl _) rfl rfl (Nat.le_of_ble_eq_true rfl) (fun v h' q _ => ?_) HT (fun E h' q _ => ?_))
  · obtain ⟨q1, rfl⟩ := q
    cases o with
    | inr E => cases q1
    | inl w =>
      cases q1
      show SW Y 0 0 h' 6 [.ref 1000, .int p0, .ref 4500, xx_d] [.ref w, .ref 4500]
      refine sw_put (h2 := xx_up h' 4500 (14, 2, updV F 1 (.ref w))) O (xx_dt dd_L_chart 4 rfl) cl_X8 fl_L_111 hO (by decide) (by omega) rfl (fun _ => ⟨rfl, rfl⟩) rfl ?_
      refine sw_goto (tgt := 15) O (xx_dt dd_L_chart 5 rfl) (by decide) ?_
      refine sw_iconst (x := 0) O (xx_dt dd_L_chart 9 rfl) (by decide) ?_
      exact sw_iret O (xx_dt dd_L_chart 10 rfl) rfl rfl (by rw [hQ]; exact ⟨rfl, rfl⟩)
  · obtain ⟨q1, rfl⟩ := q
    cases o with
    | inl w => cases q1
    | inr E9 =>
      cases q1
      obtain rfl := hE _ rfl
      refine ⟨12, ⟨[], ⟨0, 9, 12, 27⟩, [], rfl, fun z hz => absurd hz List.not_mem_nil, rfl, by decide, ck_L_27, ex_IOB, rfl⟩, ?_⟩
      refine .inr ⟨3, (xx_dt dd_L_chart 6 rfl), by decide, ?_⟩
      show SW Y 0 0 h' 13 [.ref 1000, .int p0, .ref 4500, xx_d] []
      refine sw_iconst (x := 1) O (xx_dt dd_L_chart 7 rfl) (by decide) ?_
      exact sw_iret O (xx_dt dd_L_chart 8 rfl) rfl rfl (by rw [hQ]; exact ⟨rfl, rfl⟩)
theorem lw_sale {l : Launch} {h h2 : XH} (hl : l.stackTraces = false) {d9 k9 n9 : Nat} {p0 : Int32} {o : Int32 ⊕ String} {f0 F : Nat → Value} (hC : XEo l m_X7_sale d9 k9 n9 [.ref 1000, .int p0] h (xoi o) h2) (h0 : h 1000 = some (13, 12, f0)) (hO : h2 4500 = some (14, 2, F)) (hE : ∀ E, o = .inr E → E = eIAE) : XMetH l m_L_sale hh_L_sale (d9 + 1) k9 n9 [.ref 1000, .int p0, .ref 4500] h (fun o' g => o' = .inl (some (.int (lw_k [eIAE] o))) ∧ g = lw_g h2 F o Int32.toInt64) := by
  refine XMetH.of hl rfl rfl (Nat.le_of_ble_eq_true rfl) (fun E g q => by cases q.1) (fun Y O HT hh hQ => ?_)
  show SW Y k9 n9 h 0 [.ref 1000, .int p0, .ref 4500, xx_d] []
  refine sw_aload_n O (xx_dt dd_L_sale 0 rfl) rfl ?_
  refine sw_aload_n O (xx_dt dd_L_sale 1 rfl) rfl ?_
  refine sw_iload_n O (xx_dt dd_L_sale 2 rfl) rfl ?_
  refine xx_wid (k' := 0 + k9) (n' := 0 + n9) (by omega) (by omega) (sw_callVc (hh := hh_L_sale) (as := [.int p0]) (st := [.ref 4500]) (k := 0) (n := 0) O hC ce_X7_sale ml_L_115 iv_X7_sale cl_X7 rfl h0 (xx_dt dd_L_sale 3 rfl) (Nat.le_refl _) rfl rfl (Nat.le_of_ble_eq_true rfl) (fun v h' q _ => ?_) HT (fun E h' q _ => ?_))
  · obtain ⟨q1, rfl⟩ := q
    cases o with
    | inr E => cases q1
    | inl w =>
      cases q1
      show SW Y 0 0 h' 6 [.ref 1000, .int p0, .ref 4500, xx_d] [.int w, .ref 4500]
      refine sw_i2l O (xx_dt dd_L_sale 4 rfl) ?_
      refine sw_put (h2 := xx_up h' 4500 (14, 2, updV F 0 (.long (Int32.toInt64 w)))) O (xx_dt dd_L_sale 5 rfl) cl_X8 fl_L_13 hO (by decide) (by omega) rfl (fun _ => ⟨rfl, rfl⟩) rfl ?_
      refine sw_goto (tgt := 16) O (xx_dt dd_L_sale 6 rfl) (by decide) ?_
      refine sw_iconst (x := 0) O (xx_dt dd_L_sale 10 rfl) (by decide) ?_
      exact sw_iret O (xx_dt dd_L_sale 11 rfl) rfl rfl (by rw [hQ]; exact ⟨rfl, rfl⟩)
  · obtain ⟨q1, rfl⟩ := q
    cases o with
    | inl w => cases q1
    | inr E9 =>
      cases q1
      obtain rfl := hE _ rfl
      refine ⟨13, ⟨[], ⟨0, 10, 13, 19⟩, [], rfl, fun z hz => absurd hz List.not_mem_nil, rfl, by decide, ck_L_19, ex_IAE, rfl⟩, ?_⟩
      refine .inr ⟨3, (xx_dt dd_L_sale 7 rfl), by decide, ?_⟩
      show SW Y 0 0 h' 14 [.ref 1000, .int p0, .ref 4500, xx_d] []
      refine sw_iconst (x := 1) O (xx_dt dd_L_sale 8 rfl) (by decide) ?_
      exact sw_iret O (xx_dt dd_L_sale 9 rfl) rfl rfl (by rw [hQ]; exact ⟨rfl, rfl⟩)
theorem lw_worth {l : Launch} {h h2 : XH} (hl : l.stackTraces = false) {d9 k9 n9 : Nat} {p0 : Int32} {o : Int32 ⊕ String} {f0 F : Nat → Value} (hC : XEo l m_X7_worth d9 k9 n9 [.ref 1000, .int p0] h (xoi o) h2) (h0 : h 1000 = some (13, 12, f0)) (hO : h2 4500 = some (14, 2, F)) (hE : ∀ E, o = .inr E → E = eIAE) : XMetH l m_L_worth hh_L_worth (d9 + 1) k9 n9 [.ref 1000, .int p0, .ref 4500] h (fun o' g => o' = .inl (some (.int (lw_k [eIAE] o))) ∧ g = lw_g h2 F o Int32.toInt64) := by
  refine XMetH.of hl rfl rfl (Nat.le_of_ble_eq_true rfl) (fun E g q => by cases q.1) (fun Y O HT hh hQ => ?_)
  show SW Y k9 n9 h 0 [.ref 1000, .int p0, .ref 4500, xx_d] []
  refine sw_aload_n O (xx_dt dd_L_worth 0 rfl) rfl ?_
  refine sw_aload_n O (xx_dt dd_L_worth 1 rfl) rfl ?_
  refine sw_iload_n O (xx_dt dd_L_worth 2 rfl) rfl ?_
  refine xx_wid (k' := 0 + k9) (n' := 0 + n9) (by omega) (by omega) (sw_callVc (hh := hh_L_worth) (as := [.int p0]) (st := [.ref 4500]) (k := 0) (n := 0) O hC ce_X7_worth ml_L_118 iv_X7_worth cl_X7 rfl h0 (xx_dt dd_L_worth 3 rfl) (Nat.le_refl _) rfl rfl (Nat.le_of_ble_eq_true rfl) (fun v h' q _ => ?_) HT (fun E h' q _ => ?_))
  · obtain ⟨q1, rfl⟩ := q
    cases o with
    | inr E => cases q1
    | inl w =>
      cases q1
      show SW Y 0 0 h' 6 [.ref 1000, .int p0, .ref 4500, xx_d] [.int w, .ref 4500]
      refine sw_i2l O (xx_dt dd_L_worth 4 rfl) ?_
      refine sw_put (h2 := xx_up h' 4500 (14, 2, updV F 0 (.long (Int32.toInt64 w)))) O (xx_dt dd_L_worth 5 rfl) cl_X8 fl_L_13 hO (by decide) (by omega) rfl (fun _ => ⟨rfl, rfl⟩) rfl ?_
      refine sw_goto (tgt := 16) O (xx_dt dd_L_worth 6 rfl) (by decide) ?_
      refine sw_iconst (x := 0) O (xx_dt dd_L_worth 10 rfl) (by decide) ?_
      exact sw_iret O (xx_dt dd_L_worth 11 rfl) rfl rfl (by rw [hQ]; exact ⟨rfl, rfl⟩)
  · obtain ⟨q1, rfl⟩ := q
    cases o with
    | inl w => cases q1
    | inr E9 =>
      cases q1
      obtain rfl := hE _ rfl
      refine ⟨13, ⟨[], ⟨0, 10, 13, 19⟩, [], rfl, fun z hz => absurd hz List.not_mem_nil, rfl, by decide, ck_L_19, ex_IAE, rfl⟩, ?_⟩
      refine .inr ⟨3, (xx_dt dd_L_worth 7 rfl), by decide, ?_⟩
      show SW Y 0 0 h' 14 [.ref 1000, .int p0, .ref 4500, xx_d] []
      refine sw_iconst (x := 1) O (xx_dt dd_L_worth 8 rfl) (by decide) ?_
      exact sw_iret O (xx_dt dd_L_worth 9 rfl) rfl rfl (by rw [hQ]; exact ⟨rfl, rfl⟩)
theorem lw_wouldPay {l : Launch} {h h2 : XH} (hl : l.stackTraces = false) {d9 k9 n9 : Nat} {p0 p1 : Int32} {o : Int32 ⊕ String} {f0 F : Nat → Value} (hC : XEo l m_X7_wouldPay d9 k9 n9 [.ref 1000, .int p0, .int p1] h (xoi o) h2) (h0 : h 1000 = some (13, 12, f0)) (hO : h2 4500 = some (14, 2, F)) (hE : ∀ E, o = .inr E → E = eIOB ∨ E = eIAE) : XMetH l m_L_wouldPay hh_L_wouldPay (d9 + 1) k9 n9 [.ref 1000, .int p0, .int p1, .ref 4500] h (fun o' g => o' = .inl (some (.int (lw_k [eIOB, eIAE] o))) ∧ g = lw_g h2 F o Int32.toInt64) := by
  refine XMetH.of hl rfl rfl (Nat.le_of_ble_eq_true rfl) (fun E g q => by cases q.1) (fun Y O HT hh hQ => ?_)
  show SW Y k9 n9 h 0 [.ref 1000, .int p0, .int p1, .ref 4500, xx_d] []
  refine sw_aload_n O (xx_dt dd_L_wouldPay 0 rfl) rfl ?_
  refine sw_aload_n O (xx_dt dd_L_wouldPay 1 rfl) rfl ?_
  refine sw_iload_n O (xx_dt dd_L_wouldPay 2 rfl) rfl ?_
  refine sw_iload_n O (xx_dt dd_L_wouldPay 3 rfl) rfl ?_
  refine xx_wid (k' := 0 + k9) (n' := 0 + n9) (by omega) (by omega) (sw_callVc (hh := hh_L_wouldPay) (as := [.int p0, .int p1]) (st := [.ref 4500]) (k := 0) (n := 0) O hC ce_X7_wouldPay ml_L_121 iv_X7_wouldPay cl_X7 rfl h0 (xx_dt dd_L_wouldPay 4 rfl) (Nat.le_refl _) rfl rfl (Nat.le_of_ble_eq_true rfl) (fun v h' q _ => ?_) HT (fun E h' q _ => ?_))
  · obtain ⟨q1, rfl⟩ := q
    cases o with
    | inr E => cases q1
    | inl w =>
      cases q1
      show SW Y 0 0 h' 7 [.ref 1000, .int p0, .int p1, .ref 4500, xx_d] [.int w, .ref 4500]
      refine sw_i2l O (xx_dt dd_L_wouldPay 5 rfl) ?_
      refine sw_put (h2 := xx_up h' 4500 (14, 2, updV F 0 (.long (Int32.toInt64 w)))) O (xx_dt dd_L_wouldPay 6 rfl) cl_X8 fl_L_13 hO (by decide) (by omega) rfl (fun _ => ⟨rfl, rfl⟩) rfl ?_
      refine sw_goto (tgt := 22) O (xx_dt dd_L_wouldPay 7 rfl) (by decide) ?_
      refine sw_iconst (x := 0) O (xx_dt dd_L_wouldPay 14 rfl) (by decide) ?_
      exact sw_iret O (xx_dt dd_L_wouldPay 15 rfl) rfl rfl (by rw [hQ]; exact ⟨rfl, rfl⟩)
  · obtain ⟨q1, rfl⟩ := q
    cases o with
    | inl w => cases q1
    | inr E9 =>
      cases q1
      rcases hE _ rfl with rfl | rfl
      · refine ⟨14, ⟨[], ⟨0, 11, 14, 27⟩, [⟨0, 11, 18, 19⟩], rfl, fun z hz => absurd hz List.not_mem_nil, rfl, by decide, ck_L_27, ex_IOB, rfl⟩, ?_⟩
        refine .inl ⟨4, (xx_dt dd_L_wouldPay 8 rfl), by decide, ?_⟩
        show SW Y 0 0 h' 16 [.ref 1000, .int p0, .int p1, .ref 4500, xx_d] []
        refine sw_iconst (x := 1) O (xx_dt dd_L_wouldPay 9 rfl) (by decide) ?_
        exact sw_iret O (xx_dt dd_L_wouldPay 10 rfl) rfl rfl (by rw [hQ]; exact ⟨rfl, rfl⟩)
      · refine ⟨18, ⟨[⟨0, 11, 14, 27⟩], ⟨0, 11, 18, 19⟩, [], rfl, fun z hz => by
          simp only [List.mem_cons, List.not_mem_nil, or_false] at hz
          rcases hz with rfl
          · exact ⟨by decide, _, ck_L_27, (.head _)⟩, rfl, by decide, ck_L_19, ex_IAE, rfl⟩, ?_⟩
        refine .inl ⟨4, (xx_dt dd_L_wouldPay 11 rfl), by decide, ?_⟩
        show SW Y 0 0 h' 20 [.ref 1000, .int p0, .int p1, .ref 4500, xx_d] []
        refine sw_iconst (x := 2) O (xx_dt dd_L_wouldPay 12 rfl) (by decide) ?_
        exact sw_iret O (xx_dt dd_L_wouldPay 13 rfl) rfl rfl (by rw [hQ]; exact ⟨rfl, rfl⟩)
theorem lw_objects {l : Launch} {h h2 : XH} (hl : l.stackTraces = false) {d9 k9 n9 : Nat} {p0 p1 : Int32} {o : Int32 ⊕ String} {f0 F : Nat → Value} (hC : XEo l m_X7_objects d9 k9 n9 [.ref 1000, .int p0, .int p1] h (xoi o) h2) (h0 : h 1000 = some (13, 12, f0)) (hO : h2 4500 = some (14, 2, F)) (hE : ∀ E, o = .inr E → E = eIAE) : XMetH l m_L_objects hh_L_objects (d9 + 1) k9 n9 [.ref 1000, .int p0, .int p1, .ref 4500] h (fun o' g => o' = .inl (some (.int (lw_k [eIAE] o))) ∧ g = lw_g h2 F o Int32.toInt64) := by
  refine XMetH.of hl rfl rfl (Nat.le_of_ble_eq_true rfl) (fun E g q => by cases q.1) (fun Y O HT hh hQ => ?_)
  show SW Y k9 n9 h 0 [.ref 1000, .int p0, .int p1, .ref 4500, xx_d] []
  refine sw_aload_n O (xx_dt dd_L_objects 0 rfl) rfl ?_
  refine sw_aload_n O (xx_dt dd_L_objects 1 rfl) rfl ?_
  refine sw_iload_n O (xx_dt dd_L_objects 2 rfl) rfl ?_
  refine sw_iload_n O (xx_dt dd_L_objects 3 rfl) rfl ?_
  refine xx_wid (k' := 0 + k9) (n' := 0 + n9) (by omega) (by omega) (sw_callVc (hh := hh_L_objects) (as := [.int p0, .int p1]) (st := [.ref 4500]) (k := 0) (n := 0) O hC ce_X7_objects ml_L_124 iv_X7_objects cl_X7 rfl h0 (xx_dt dd_L_objects 4 rfl) (Nat.le_refl _) rfl rfl (Nat.le_of_ble_eq_true rfl) (fun v h' q _ => ?_) HT (fun E h' q _ => ?_))
  · obtain ⟨q1, rfl⟩ := q
    cases o with
    | inr E => cases q1
    | inl w =>
      cases q1
      show SW Y 0 0 h' 7 [.ref 1000, .int p0, .int p1, .ref 4500, xx_d] [.int w, .ref 4500]
      refine sw_i2l O (xx_dt dd_L_objects 5 rfl) ?_
      refine sw_put (h2 := xx_up h' 4500 (14, 2, updV F 0 (.long (Int32.toInt64 w)))) O (xx_dt dd_L_objects 6 rfl) cl_X8 fl_L_13 hO (by decide) (by omega) rfl (fun _ => ⟨rfl, rfl⟩) rfl ?_
      refine sw_goto (tgt := 18) O (xx_dt dd_L_objects 7 rfl) (by decide) ?_
      refine sw_iconst (x := 0) O (xx_dt dd_L_objects 11 rfl) (by decide) ?_
      exact sw_iret O (xx_dt dd_L_objects 12 rfl) rfl rfl (by rw [hQ]; exact ⟨rfl, rfl⟩)
  · obtain ⟨q1, rfl⟩ := q
    cases o with
    | inl w => cases q1
    | inr E9 =>
      cases q1
      obtain rfl := hE _ rfl
      refine ⟨14, ⟨[], ⟨0, 11, 14, 19⟩, [], rfl, fun z hz => absurd hz List.not_mem_nil, rfl, by decide, ck_L_19, ex_IAE, rfl⟩, ?_⟩
      refine .inl ⟨4, (xx_dt dd_L_objects 8 rfl), by decide, ?_⟩
      show SW Y 0 0 h' 16 [.ref 1000, .int p0, .int p1, .ref 4500, xx_d] []
      refine sw_iconst (x := 1) O (xx_dt dd_L_objects 9 rfl) (by decide) ?_
      exact sw_iret O (xx_dt dd_L_objects 10 rfl) rfl rfl (by rw [hQ]; exact ⟨rfl, rfl⟩)
theorem lw_most {l : Launch} {h h2 : XH} (hl : l.stackTraces = false) {d9 k9 n9 : Nat} {p0 p1 : Int32} {o : Int32 ⊕ String} {f0 F : Nat → Value} (hC : XEo l m_X7_most d9 k9 n9 [.ref 1000, .int p0, .int p1] h (xoi o) h2) (h0 : h 1000 = some (13, 12, f0)) (hO : h2 4500 = some (14, 2, F)) (hE : ∀ E, o = .inr E → E = eIOB) : XMetH l m_L_most hh_L_most (d9 + 1) k9 n9 [.ref 1000, .int p0, .int p1, .ref 4500] h (fun o' g => o' = .inl (some (.int (lw_k [eIOB] o))) ∧ g = lw_g h2 F o Int32.toInt64) := by
  refine XMetH.of hl rfl rfl (Nat.le_of_ble_eq_true rfl) (fun E g q => by cases q.1) (fun Y O HT hh hQ => ?_)
  show SW Y k9 n9 h 0 [.ref 1000, .int p0, .int p1, .ref 4500, xx_d] []
  refine sw_aload_n O (xx_dt dd_L_most 0 rfl) rfl ?_
  refine sw_aload_n O (xx_dt dd_L_most 1 rfl) rfl ?_
  refine sw_iload_n O (xx_dt dd_L_most 2 rfl) rfl ?_
  refine sw_iload_n O (xx_dt dd_L_most 3 rfl) rfl ?_
  refine xx_wid (k' := 0 + k9) (n' := 0 + n9) (by omega) (by omega) (sw_callVc (hh := hh_L_most) (as := [.int p0, .int p1]) (st := [.ref 4500]) (k := 0) (n := 0) O hC ce_X7_most ml_L_127 iv_X7_most cl_X7 rfl h0 (xx_dt dd_L_most 4 rfl) (Nat.le_refl _) rfl rfl (Nat.le_of_ble_eq_true rfl) (fun v h' q _ => ?_) HT (fun E h' q _ => ?_))
  · obtain ⟨q1, rfl⟩ := q
    cases o with
    | inr E => cases q1
    | inl w =>
      cases q1
      show SW Y 0 0 h' 7 [.ref 1000, .int p0, .int p1, .ref 4500, xx_d] [.int w, .ref 4500]
      refine sw_i2l O (xx_dt dd_L_most 5 rfl) ?_
      refine sw_put (h2 := xx_up h' 4500 (14, 2, updV F 0 (.long (Int32.toInt64 w)))) O (xx_dt dd_L_most 6 rfl) cl_X8 fl_L_13 hO (by decide) (by omega) rfl (fun _ => ⟨rfl, rfl⟩) rfl ?_
      refine sw_goto (tgt := 18) O (xx_dt dd_L_most 7 rfl) (by decide) ?_
      refine sw_iconst (x := 0) O (xx_dt dd_L_most 11 rfl) (by decide) ?_
      exact sw_iret O (xx_dt dd_L_most 12 rfl) rfl rfl (by rw [hQ]; exact ⟨rfl, rfl⟩)
  · obtain ⟨q1, rfl⟩ := q
    cases o with
    | inl w => cases q1
    | inr E9 =>
      cases q1
      obtain rfl := hE _ rfl
      refine ⟨14, ⟨[], ⟨0, 11, 14, 27⟩, [], rfl, fun z hz => absurd hz List.not_mem_nil, rfl, by decide, ck_L_27, ex_IOB, rfl⟩, ?_⟩
      refine .inl ⟨4, (xx_dt dd_L_most 8 rfl), by decide, ?_⟩
      show SW Y 0 0 h' 16 [.ref 1000, .int p0, .int p1, .ref 4500, xx_d] []
      refine sw_iconst (x := 1) O (xx_dt dd_L_most 9 rfl) (by decide) ?_
      exact sw_iret O (xx_dt dd_L_most 10 rfl) rfl rfl (by rw [hQ]; exact ⟨rfl, rfl⟩)
theorem lw_contradicts {l : Launch} {h h2 : XH} (hl : l.stackTraces = false) {d9 k9 n9 : Nat} {p0 : Int32} {o : Int32 ⊕ String} {f0 F : Nat → Value} (hC : XEo l m_X7_contradicts d9 k9 n9 [.ref 1000, .int p0] h (xoi o) h2) (h0 : h 1000 = some (13, 12, f0)) (hO : h2 4500 = some (14, 2, F)) (hE : ∀ E, o = .inr E → E = eIOB) : XMetH l m_L_contradicts hh_L_contradicts (d9 + 1) k9 n9 [.ref 1000, .int p0, .ref 4500] h (fun o' g => o' = .inl (some (.int (lw_k [eIOB] o))) ∧ g = lw_g h2 F o Int32.toInt64) := by
  refine XMetH.of hl rfl rfl (Nat.le_of_ble_eq_true rfl) (fun E g q => by cases q.1) (fun Y O HT hh hQ => ?_)
  show SW Y k9 n9 h 0 [.ref 1000, .int p0, .ref 4500, xx_d] []
  refine sw_aload_n O (xx_dt dd_L_contradicts 0 rfl) rfl ?_
  refine sw_aload_n O (xx_dt dd_L_contradicts 1 rfl) rfl ?_
  refine sw_iload_n O (xx_dt dd_L_contradicts 2 rfl) rfl ?_
  refine xx_wid (k' := 0 + k9) (n' := 0 + n9) (by omega) (by omega) (sw_callVc (hh := hh_L_contradicts) (as := [.int p0]) (st := [.ref 4500]) (k := 0) (n := 0) O hC ce_X7_contradicts ml_L_130 iv_X7_contradicts cl_X7 rfl h0 (xx_dt dd_L_contradicts 3 rfl) (Nat.le_refl _) rfl rfl (Nat.le_of_ble_eq_true rfl) (fun v h' q _ => ?_) HT (fun E h' q _ => ?_))
  · obtain ⟨q1, rfl⟩ := q
    cases o with
    | inr E => cases q1
    | inl w =>
      cases q1
      show SW Y 0 0 h' 6 [.ref 1000, .int p0, .ref 4500, xx_d] [.int w, .ref 4500]
      refine sw_i2l O (xx_dt dd_L_contradicts 4 rfl) ?_
      refine sw_put (h2 := xx_up h' 4500 (14, 2, updV F 0 (.long (Int32.toInt64 w)))) O (xx_dt dd_L_contradicts 5 rfl) cl_X8 fl_L_13 hO (by decide) (by omega) rfl (fun _ => ⟨rfl, rfl⟩) rfl ?_
      refine sw_goto (tgt := 16) O (xx_dt dd_L_contradicts 6 rfl) (by decide) ?_
      refine sw_iconst (x := 0) O (xx_dt dd_L_contradicts 10 rfl) (by decide) ?_
      exact sw_iret O (xx_dt dd_L_contradicts 11 rfl) rfl rfl (by rw [hQ]; exact ⟨rfl, rfl⟩)
  · obtain ⟨q1, rfl⟩ := q
    cases o with
    | inl w => cases q1
    | inr E9 =>
      cases q1
      obtain rfl := hE _ rfl
      refine ⟨13, ⟨[], ⟨0, 10, 13, 27⟩, [], rfl, fun z hz => absurd hz List.not_mem_nil, rfl, by decide, ck_L_27, ex_IOB, rfl⟩, ?_⟩
      refine .inr ⟨3, (xx_dt dd_L_contradicts 7 rfl), by decide, ?_⟩
      show SW Y 0 0 h' 14 [.ref 1000, .int p0, .ref 4500, xx_d] []
      refine sw_iconst (x := 1) O (xx_dt dd_L_contradicts 8 rfl) (by decide) ?_
      exact sw_iret O (xx_dt dd_L_contradicts 9 rfl) rfl rfl (by rw [hQ]; exact ⟨rfl, rfl⟩)
theorem lw_anew {l : Launch} {h h2 : XH} (hl : l.stackTraces = false) {d9 k9 n9 : Nat} {p0 p1 p2 p3 : Int32} {o : Int32 ⊕ String} {f0 F : Nat → Value} (hC : XEo l m_X7_anew d9 k9 n9 [.ref 1000, .int p0, .int p1, .int p2, .int p3] h (xoi o) h2) (h0 : h 1000 = some (13, 12, f0)) (hO : h2 4500 = some (14, 2, F)) (hE : ∀ E, o = .inr E → E = eIOB ∨ E = eIAE) : XMetH l m_L_anew hh_L_anew (d9 + 1) k9 n9 [.ref 1000, .int p0, .int p1, .int p2, .int p3, .ref 4500] h (fun o' g => o' = .inl (some (.int (lw_k [eIOB, eIAE] o))) ∧ g = lw_g h2 F o Int32.toInt64) := by
  refine XMetH.of hl rfl rfl (Nat.le_of_ble_eq_true rfl) (fun E g q => by cases q.1) (fun Y O HT hh hQ => ?_)
  show SW Y k9 n9 h 0 [.ref 1000, .int p0, .int p1, .int p2, .int p3, .ref 4500, xx_d] []
  refine sw_aload O (xx_dt dd_L_anew 0 rfl) rfl ?_
  refine sw_aload_n O (xx_dt dd_L_anew 1 rfl) rfl ?_
  refine sw_iload_n O (xx_dt dd_L_anew 2 rfl) rfl ?_
  refine sw_iload_n O (xx_dt dd_L_anew 3 rfl) rfl ?_
  refine sw_iload_n O (xx_dt dd_L_anew 4 rfl) rfl ?_
  refine sw_iload O (xx_dt dd_L_anew 5 rfl) rfl ?_
  refine xx_wid (k' := 0 + k9) (n' := 0 + n9) (by omega) (by omega) (sw_callVc (hh := hh_L_anew) (as := [.int p0, .int p1, .int p2, .int p3]) (st := [.ref 4500]) (k := 0) (n := 0) O hC ce_X7_anew ml_L_133 iv_X7_anew cl_X7 rfl h0 (xx_dt dd_L_anew 6 rfl) (Nat.le_refl _) rfl rfl (Nat.le_of_ble_eq_true rfl) (fun v h' q _ => ?_) HT (fun E h' q _ => ?_))
  · obtain ⟨q1, rfl⟩ := q
    cases o with
    | inr E => cases q1
    | inl w =>
      cases q1
      show SW Y 0 0 h' 11 [.ref 1000, .int p0, .int p1, .int p2, .int p3, .ref 4500, xx_d] [.int w, .ref 4500]
      refine sw_i2l O (xx_dt dd_L_anew 7 rfl) ?_
      refine sw_put (h2 := xx_up h' 4500 (14, 2, updV F 0 (.long (Int32.toInt64 w)))) O (xx_dt dd_L_anew 8 rfl) cl_X8 fl_L_13 hO (by decide) (by omega) rfl (fun _ => ⟨rfl, rfl⟩) rfl ?_
      refine sw_goto (tgt := 26) O (xx_dt dd_L_anew 9 rfl) (by decide) ?_
      refine sw_iconst (x := 0) O (xx_dt dd_L_anew 16 rfl) (by decide) ?_
      exact sw_iret O (xx_dt dd_L_anew 17 rfl) rfl rfl (by rw [hQ]; exact ⟨rfl, rfl⟩)
  · obtain ⟨q1, rfl⟩ := q
    cases o with
    | inl w => cases q1
    | inr E9 =>
      cases q1
      rcases hE _ rfl with rfl | rfl
      · refine ⟨18, ⟨[], ⟨0, 15, 18, 27⟩, [⟨0, 15, 22, 19⟩], rfl, fun z hz => absurd hz List.not_mem_nil, rfl, by decide, ck_L_27, ex_IOB, rfl⟩, ?_⟩
        refine .inl ⟨6, (xx_dt dd_L_anew 10 rfl), by decide, ?_⟩
        show SW Y 0 0 h' 20 [.ref 1000, .int p0, .int p1, .int p2, .int p3, .ref 4500, xx_d] []
        refine sw_iconst (x := 1) O (xx_dt dd_L_anew 11 rfl) (by decide) ?_
        exact sw_iret O (xx_dt dd_L_anew 12 rfl) rfl rfl (by rw [hQ]; exact ⟨rfl, rfl⟩)
      · refine ⟨22, ⟨[⟨0, 15, 18, 27⟩], ⟨0, 15, 22, 19⟩, [], rfl, fun z hz => by
          simp only [List.mem_cons, List.not_mem_nil, or_false] at hz
          rcases hz with rfl
          · exact ⟨by decide, _, ck_L_27, (.head _)⟩, rfl, by decide, ck_L_19, ex_IAE, rfl⟩, ?_⟩
        refine .inl ⟨6, (xx_dt dd_L_anew 13 rfl), by decide, ?_⟩
        show SW Y 0 0 h' 24 [.ref 1000, .int p0, .int p1, .int p2, .int p3, .ref 4500, xx_d] []
        refine sw_iconst (x := 2) O (xx_dt dd_L_anew 14 rfl) (by decide) ?_
        exact sw_iret O (xx_dt dd_L_anew 15 rfl) rfl rfl (by rw [hQ]; exact ⟨rfl, rfl⟩)
end
section
/-! ===== other names ===== -/
def vk (κ : Nat → Nat) (v : Value) : Value := match v with
  | .ref a => .ref (κ a)
  | v => v
theorem vk_v {κ : Nat → Nat} {ρ ρ' : Nat → Nat} {h : XH} (hk : ∀ a, (h a).isSome = true → ρ' (κ a) = ρ a) {v : Value} (hv : xx_in h v) : xx_v ρ' (vk κ v) = xx_v ρ v := by
  cases v with
  | ref a => exact congrArg Value.ref (hk a hv)
  | _ => rfl
theorem xx_cell_ren {D : XD} {ρ ρ' : Nat → Nat} {ow ow' : Nat → Option Nat} {r r' : Nat} {c c' : XC} {H : Heap} (h : xx_cell D ρ ow r c H) (hr : ρ' r' = ρ r) (hw : ∀ a, ow a = some r → ow' a = some r') (hlo : (r < 1000 → r' = r) ∧ (1000 ≤ r → 1000 ≤ r')) (h1 : c'.1 = c.1) (h2 : c'.2.1 = c.2.1) (hf : ∀ j, j < c.2.1 → xx_v ρ' (c'.2.2 j) = xx_v ρ (c.2.2 j)) : xx_cell D ρ' ow' r' c' H := by
  obtain ⟨t, N, f⟩ := c
  obtain ⟨t', N', f'⟩ := c'
  dsimp only at h1 h2 hf
  subst h1
  subst h2
  refine ⟨fun q => ?_, fun q => ?_⟩
  · have q2 : r < 1000 := Nat.not_le.mp fun z => by have := hlo.2 z; omega
    have e := hlo.1 q2
    subst e
    exact (h.1 q).ren (by rw [hr]) hf
  · have q2 : 1000 ≤ r := Nat.not_lt.mp fun z => by have := hlo.1 z; omega
    exact (h.2 q2).ren hr hw hf
theorem sw_ren {Y : XY} {k n pc : Nat} {h h' : XH} {ls st : List Value} (κ κ' : Nat → Nat) (hinv : ∀ r, (h r).isSome = true → κ' (κ r) = r) (hY : ∀ r, (xy_h Y r).isSome = true → κ r = r) (hlo : ∀ r, (h r).isSome = true → (r < 1000 → κ r = r) ∧ (1000 ≤ r → 1000 ≤ κ r))
    (hh : ∀ r' c', h' r' = some c' → ∃ r c, h r = some c ∧ κ r = r' ∧ c'.1 = c.1 ∧ c'.2.1 = c.2.1 ∧ ∀ j, j < c.2.1 → c'.2.2 j = vk κ (c.2.2 j)) (hdom : ∀ r, (h r).isSome = true → (h' (κ r)).isSome = true) (hl : ∀ v ∈ ls, vk κ v = v) (hst : ∀ v ∈ st, vk κ v = v) (kk : SW Y k n h' pc ls st) : SW Y k n h pc ls st := by
  intro ρ ow H locs cells slots lsA r9
  obtain ⟨⟨s1, s2, s3, s4, s5⟩, ag, r3, r4, r5, r6, r7, r8⟩ := r9
  have hρ : ∀ a, (h a).isSome = true → (fun q => ρ (κ' q)) (κ a) = ρ a := fun a ha => congrArg ρ (hinv a ha)
  have up : ∀ v, xx_in h v → vk κ v = v → xx_in h' v := fun v hv e => by
    cases v with
    | ref a =>
      have := hdom a hv
      rw [show κ a = a from Value.ref.inj e] at this
      exact this
    | _ => exact trivial
  have ev : ∀ v, xx_in h v → vk κ v = v → xx_v (fun q => ρ (κ' q)) v = xx_v ρ v := fun v hv e => by
    have := vk_v (κ := κ) (ρ := ρ) (ρ' := fun q => ρ (κ' q)) hρ hv
    rw [e] at this
    exact this
  have em : st.map (xx_v ρ) = st.map (xx_v (fun q => ρ (κ' q))) := List.map_congr_left fun v hv => (ev v (r8 v hv) (hst v hv)).symm
  rw [em]
  refine kk (fun q => ρ (κ' q)) (fun a => (ow a).map κ) H locs cells slots lsA ⟨⟨s1, s2, fun a r' e => ?_, fun r' c' e => ?_, fun r' c' j e hj => ?_⟩, fun r hr => ?_, r3, r4, r5, ?_, fun v hv => up v (r7 v hv) (hl v hv), fun v hv => up v (r8 v hv) (hst v hv)⟩
  · cases e9 : ow a with
    | none =>
      have e' : (ow a).map κ = some r' := e
      rw [e9] at e'
      cases e'
    | some r => exact s3 a r e9
  · obtain ⟨r, c, e1, e2, e3, e4, e5⟩ := hh r' c' e
    obtain ⟨a1, a2⟩ := s4 r c e1
    have hs : (h r).isSome = true := by rw [e1]; rfl
    have hp : ρ (κ' r') = ρ r := by rw [← e2]; exact hρ r hs
    refine ⟨?_, xx_cell_ren a2 hp (fun a ha => by show (ow a).map κ = some r'; rw [ha, ← e2]; rfl) (by have := hlo r (by rw [e1]; rfl); rw [← e2]; exact this) e3 e4 (fun j hj => by rw [e5 j hj]; exact vk_v (κ := κ) (ρ := ρ) (ρ' := fun q => ρ (κ' q)) hρ (s5 r c j e1 hj))⟩
    rcases a1 with ⟨b1, b2, b3⟩ | ⟨b1, b2⟩
    · have := (hlo r hs).1 b1
      left
      show r' < 1000 ∧ (c'.1 < 300 → ρ (κ' r') < _) ∧ ρ (κ' r') = _
      rw [hp, ← e2, this]
      exact ⟨b1, fun q => b2 (by rw [← e3]; exact q), b3⟩
    · right
      show 1000 ≤ r' ∧ (ow (ρ (κ' r'))).map κ = some r'
      rw [hp, b2, ← e2]
      exact ⟨(hlo r hs).2 b1, rfl⟩
  · obtain ⟨r, c, e1, e2, e3, e4, e5⟩ := hh r' c' e
    rw [e4] at hj
    rw [e5 j hj]
    have := s5 r c j e1 hj
    revert this
    cases c.2.2 j with
    | ref a => exact fun h9 => hdom a h9
    | _ => exact fun _ => trivial
  · have h2 := ag r hr
    have hk := hY r hr
    refine ⟨?_, ?_⟩
    · have := hdom r h2.1
      rw [hk] at this
      exact this
    · show ρ (κ' r) = _
      have := hρ r h2.1
      dsimp only at this
      rw [hk] at this
      rw [this]
      exact h2.2
  · refine ⟨r6.1, r6.2.1, fun i v hi hv => ?_⟩
    rw [ev v (r7 v (List.mem_of_getElem? hi)) (hl v (List.mem_of_getElem? hi))]
    exact r6.2.2 i v hi hv
/-! ===== the heap of the law ===== -/
theorem mc_comm {z : Int64} {τ σ : XS9} {h : XH} : setM z τ (setC σ h) = setC σ (setM z τ h) := by
  funext q
  by_cases a : 1000 ≤ q ∧ q < 4000
  · rw [setM_out (by omega)]
    unfold setC
    rw [if_pos a, if_pos a]
  · rw [setC_out a]
    by_cases b : 5000 ≤ q ∧ q < 20010
    · unfold setM
      rw [if_pos b, if_pos b]
      cases e : lyQ z (ctl τ) q (τ q) with
      | none => exact setC_out a
      | some c => rfl
    · rw [setM_out b, setM_out b, setC_out a]
def fO (n : Int64) (v : Value) : Nat → Value := fun k => match k with | 0 => .long n | 1 => v | _ => .null
def hO (h0 : XH) (n : Int64) : Option (Nat × (Nat → Value)) → XH
  | none => xx_up h0 4500 (14, 2, fO n .null)
  | some (c, G) => xx_up (xx_up (xx_up h0 4500 (14, 2, fO n (.ref 4502))) 4502 (0, 4, xx_so 4503)) 4503 (102, c, G)
def sO : Option (Nat × (Nat → Value)) → Value
  | none => .null
  | some _ => .ref 4502
theorem hO_4500 {h0 : XH} {n : Int64} {s : Option (Nat × (Nat → Value))} : hO h0 n s 4500 = some (14, 2, fO n (sO s)) := by
  cases s with
  | none => exact xx_up_eq _ _ _
  | some p => exact (xx_up_ne (by omega)).trans ((xx_up_ne (by omega)).trans (xx_up_eq _ _ _))
theorem hO_o {h0 : XH} {n : Int64} {s : Option (Nat × (Nat → Value))} {q : Nat} (h1 : q ≠ 4500) (h2 : q ≠ 4502) (h3 : q ≠ 4503) : hO h0 n s q = h0 q := by
  cases s with
  | none => exact xx_up_ne h1
  | some p => exact (xx_up_ne h3).trans ((xx_up_ne h2).trans (xx_up_ne h1))
theorem hO_n {h0 : XH} {n m : Int64} {s : Option (Nat × (Nat → Value))} : xx_up (hO h0 n s) 4500 (14, 2, updV (fO n (sO s)) 0 (.long m)) = hO h0 m s := by
  have e : ∀ v, updV (fO n v) 0 (.long m) = fO m v := fun v => by
    funext k
    match k with
    | 0 => rfl
    | 1 => rfl
    | k + 2 => rfl
  rw [e]
  funext q
  by_cases a : q = 4500
  · rw [a, xx_up_eq, hO_4500]
  · rw [xx_up_ne a]
    cases s with
    | none => exact (xx_up_ne a).trans (xx_up_ne a).symm
    | some p =>
      unfold hO xx_up
      simp only [if_neg a]
def hL (h0 : XH) (z : Int64) (τ σ : XS9) (n : Int64) (s : Option (Nat × (Nat → Value))) : XH := setM z τ (setC σ (hO h0 n s))
section
variable {h0 : XH} {z : Int64} {τ σ : XS9} {n : Int64} {s : Option (Nat × (Nat → Value))}
theorem hL_c : hL h0 z τ σ n s = setC σ (setM z τ (hO h0 n s)) := mc_comm
theorem hL_4500 : hL h0 z τ σ n s 4500 = some (14, 2, fO n (sO s)) := (setM_out (by omega)).trans ((setC_out (by omega)).trans hO_4500)
theorem hL_1000 : ∃ f, hL h0 z τ σ n s 1000 = some (13, 12, f) := ⟨_, by rw [hL_c]; exact ly_1000 σ _⟩
theorem hL_lo {q : Nat} (hq : q < 1000) : hL h0 z τ σ n s q = h0 q := (setM_out (by omega)).trans ((setC_out (by omega)).trans (hO_o (by omega) (by omega) (by omega)))
theorem hL_n {σ' : XS9} {m : Int64} : xx_up (setC σ' (setM z τ (hO h0 n s))) 4500 (14, 2, updV (fO n (sO s)) 0 (.long m)) = hL h0 z τ σ' m s := by
  rw [← setC_up (by omega), ← setM_up (.inl (by omega)), hO_n, hL_c]
def lw_n (n : Int64) (o : Int32 ⊕ String) (f : Int32 → Int64) : Int64 := match o with | .inl v => f v | .inr _ => n
theorem lw_g_e {σ' : XS9} {o : Int32 ⊕ String} {f : Int32 → Int64} : lw_g (setC σ' (setM z τ (hO h0 n s))) (fO n (sO s)) o f = hL h0 z τ σ' (lw_n n o f) s := by
  cases o with
  | inl v => exact hL_n
  | inr E => exact hL_c.symm
/-- what the law's own heap has before it makes anything -/
def okB (h0 : XH) : Prop := xx_bs h0 ∧ xx_tl h0 ∧ ∀ r, 1000 ≤ r → h0 r = none
/-- what a method of the class may take of the heap behind it -/
def okC (h : XH) : Prop := (∃ h0 z τ n s, okB h0 ∧ h = setM z τ (hO h0 n s))
/-- what a method of the reference may take of the heap behind it -/
def okM (h : XH) : Prop := (∃ h0 σ n s, okB h0 ∧ h = setC σ (hO h0 n s))
theorem okC.dig {h : XH} (a : okC h) : xx_dig h := by
  obtain ⟨h0, z, τ, n, s, b, rfl⟩ := a
  obtain ⟨F, e, e2⟩ := b.2.1.2
  exact ⟨F, (setM_out (by omega)).trans ((hO_o (by omega) (by omega) (by omega)).trans e), e2⟩
theorem okC.no {h : XH} (a : okC h) {q : Nat} (h1 : 4000 ≤ q) (h2 : q < 4500) : h q = none := by
  obtain ⟨h0, z, τ, n, s, b, rfl⟩ := a
  exact (setM_out (by omega)).trans ((hO_o (by omega) (by omega) (by omega)).trans (b.2.2 q (by omega)))
theorem okM.lo {h0 : XH} {σ : XS9} {n : Int64} {s : Option (Nat × (Nat → Value))} {q : Nat} (hq : q < 1000 ∨ 5000 ≤ q) : setC σ (hO h0 n s) q = h0 q := (setC_out (by omega)).trans (hO_o (by omega) (by omega) (by omega))
theorem okM.bs {h : XH} (a : okM h) : xx_bs h := by
  obtain ⟨h0, σ, n, s, b, rfl⟩ := a
  obtain ⟨⟨f0, a1⟩, ⟨c3, a2⟩, a3, a4, a5, a6⟩ := b.1
  exact ⟨⟨f0, (okM.lo (by omega)).trans a1⟩, ⟨c3, (okM.lo (by omega)).trans a2⟩, (okM.lo (by omega)).trans a3, fun j hj => (okM.lo (by omega)).trans (a4 j hj), (okM.lo (by omega)).trans a5, (okM.lo (by omega)).trans a6⟩
theorem okM.tl {h : XH} (a : okM h) : xx_tl h := by
  obtain ⟨h0, σ, n, s, b, rfl⟩ := a
  obtain ⟨⟨a1, a2, a3⟩, F, a4, a5⟩ := b.2.1
  exact ⟨⟨tx_at a1 (okM.lo (by omega)) (okM.lo (by omega)), tx_at a2 (okM.lo (by omega)) (okM.lo (by omega)), tx_at a3 (okM.lo (by omega)) (okM.lo (by omega))⟩, F, (okM.lo (by omega)).trans a4, a5⟩
theorem okM.no {h : XH} (a : okM h) {q : Nat} (h1 : 5000 ≤ q) : h q = none := by
  obtain ⟨h0, σ, n, s, b, rfl⟩ := a
  exact (okM.lo (.inr h1)).trans (b.2.2 q (by omega))
end
end
