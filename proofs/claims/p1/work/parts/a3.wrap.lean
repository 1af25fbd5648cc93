/-! ===== the law's own methods ===== -/
def lw_ix : List String → String → Int32
  | [], _ => 0
  | a :: t, E => if E = a then 1 else 1 + lw_ix t E
def lw_k {α : Type} (hs : List String) (o : α ⊕ String) : Int32 := match o with | .inl _ => 0 | .inr E => lw_ix hs E
def lw_g (h2 : XH) (F : Nat → Value) (o : Int32 ⊕ String) (f : Int32 → Int64) : XH := match o with | .inl v => xx_up h2 4500 (14, 2, updV F 0 (.long (f v))) | .inr _ => h2
def lw_gs (h2 : XH) (F : Nat → Value) (o : Nat ⊕ String) : XH := match o with | .inl v => xx_up h2 4500 (14, 2, updV F 1 (.ref v)) | .inr _ => h2
def xor : Nat ⊕ String → XO | .inl x => .inl (some (.ref x)) | .inr E => .inr E
abbrev lw_B (v : Int32) : Int64 := if v = 0 then Int64.ofNat (0 : Fin 2) else Int64.ofNat (1 : Fin 2)
theorem lw_region {l : Launch} {h h2 : XH} (hl : l.stackTraces = false) {d9 k9 n9 : Nat} {p0 p1 p2 : Int32} {o : Int32 ⊕ String} {f0 F : Nat → Value} (hC : XEo l m_X7_region d9 k9 n9 [.ref 1000, .int p0, .int p1, .int p2] h (xoi o) h2) (h0 : h 1000 = some (13, 12, f0)) (hO : h2 4500 = some (14, 2, F)) (hE : ∀ E, o = .inr E → E = eIAE ∨ E = eISE) : XMetH l m_L_region hh_L_region (d9 + 1) k9 n9 [.ref 1000, .int p0, .int p1, .int p2, .ref 4500] h (fun o' g => o' = .inl (some (.int (lw_k [eIAE, eISE] o))) ∧ g = lw_g h2 F o Int32.toInt64) := by
  refine XMetH.of hl rfl rfl (Nat.le_of_ble_eq_true rfl) (fun E g q => by cases q.1) (fun Y O HT hh hQ => ?_)
  show SW Y k9 n9 h 0 [.ref 1000, .int p0, .int p1, .int p2, .ref 4500, xx_d] []
  refine sw_aload O (xx_dt dd_L_region 0 rfl) rfl ?_
  refine sw_aload_n O (xx_dt dd_L_region 1 rfl) rfl ?_
  refine sw_iload_n O (xx_dt dd_L_region 2 rfl) rfl ?_
  refine sw_iload_n O (xx_dt dd_L_region 3 rfl) rfl ?_
  refine sw_iload_n O (xx_dt dd_L_region 4 rfl) rfl ?_
  refine xx_wid (k' := 0 + k9) (n' := 0 + n9) (by omega) (by omega) (sw_callVc (hh := hh_L_region) (as := [.int p0, .int p1, .int p2]) (st := [.ref 4500]) (k := 0) (n := 0) O hC ce_X7_region ml_L_7 iv_X7_region cl_X7 rfl h0 (xx_dt dd_L_region 5 rfl) (Nat.le_refl _) rfl rfl (Nat.le_of_ble_eq_true rfl) (fun v h' q _ => ?_) HT (fun E h' q _ => ?_))
  · obtain ⟨q1, rfl⟩ := q
    cases o with
    | inr E => cases q1
    | inl w =>
      cases q1
      show SW Y 0 0 h' 9 [.ref 1000, .int p0, .int p1, .int p2, .ref 4500, xx_d] [.int w, .ref 4500]
      refine sw_i2l O (xx_dt dd_L_region 6 rfl) ?_
      refine sw_put (h2 := xx_up h' 4500 (14, 2, updV F 0 (.long (Int32.toInt64 w)))) O (xx_dt dd_L_region 7 rfl) cl_X8 fl_L_13 hO (by decide) (by omega) rfl (fun _ => ⟨rfl, rfl⟩) rfl ?_
      refine sw_goto (tgt := 24) O (xx_dt dd_L_region 8 rfl) (by decide) ?_
      refine sw_iconst (x := 0) O (xx_dt dd_L_region 15 rfl) (by decide) ?_
      exact sw_iret O (xx_dt dd_L_region 16 rfl) rfl rfl (by rw [hQ]; exact ⟨rfl, rfl⟩)
  · obtain ⟨q1, rfl⟩ := q
    cases o with
    | inl w => cases q1
    | inr E9 =>
      cases q1
      rcases hE _ rfl with rfl | rfl
      · refine ⟨16, ⟨[], ⟨0, 13, 16, 19⟩, [⟨0, 13, 20, 21⟩], rfl, fun z hz => absurd hz List.not_mem_nil, rfl, by decide, ck_L_19, ex_IAE, rfl⟩, ?_⟩
        refine .inl ⟨5, (xx_dt dd_L_region 9 rfl), by decide, ?_⟩
        show SW Y 0 0 h' 18 [.ref 1000, .int p0, .int p1, .int p2, .ref 4500, xx_d] []
        refine sw_iconst (x := 1) O (xx_dt dd_L_region 10 rfl) (by decide) ?_
        exact sw_iret O (xx_dt dd_L_region 11 rfl) rfl rfl (by rw [hQ]; exact ⟨rfl, rfl⟩)
      · refine ⟨20, ⟨[⟨0, 13, 16, 19⟩], ⟨0, 13, 20, 21⟩, [], rfl, fun z hz => by
          simp only [List.mem_cons, List.not_mem_nil, or_false] at hz
          rcases hz with rfl
          · exact ⟨by decide, _, ck_L_19, (.tail _ (.tail _ (.head _)))⟩, rfl, by decide, ck_L_21, ex_ISE, rfl⟩, ?_⟩
        refine .inl ⟨5, (xx_dt dd_L_region 12 rfl), by decide, ?_⟩
        show SW Y 0 0 h' 22 [.ref 1000, .int p0, .int p1, .int p2, .ref 4500, xx_d] []
        refine sw_iconst (x := 2) O (xx_dt dd_L_region 13 rfl) (by decide) ?_
        exact sw_iret O (xx_dt dd_L_region 14 rfl) rfl rfl (by rw [hQ]; exact ⟨rfl, rfl⟩)
theorem lw_border {l : Launch} {h h2 : XH} (hl : l.stackTraces = false) {d9 k9 n9 : Nat} {p0 p1 : Int32} {o : Int32 ⊕ String} {f0 F : Nat → Value} (hC : XEo l m_X7_border d9 k9 n9 [.ref 1000, .int p0, .int p1] h (xoi o) h2) (h0 : h 1000 = some (13, 12, f0)) (hO : h2 4500 = some (14, 2, F)) (hE : ∀ E, o = .inr E → E = eIOB ∨ E = eIAE ∨ E = eISE) : XMetH l m_L_border hh_L_border (d9 + 1) k9 n9 [.ref 1000, .int p0, .int p1, .ref 4500] h (fun o' g => o' = .inl (some (.int (lw_k [eIOB, eIAE, eISE] o))) ∧ g = lw_g h2 F o Int32.toInt64) := by
  refine XMetH.of hl rfl rfl (Nat.le_of_ble_eq_true rfl) (fun E g q => by cases q.1) (fun Y O HT hh hQ => ?_)
  show SW Y k9 n9 h 0 [.ref 1000, .int p0, .int p1, .ref 4500, xx_d] []
  refine sw_aload_n O (xx_dt dd_L_border 0 rfl) rfl ?_
  refine sw_aload_n O (xx_dt dd_L_border 1 rfl) rfl ?_
  refine sw_iload_n O (xx_dt dd_L_border 2 rfl) rfl ?_
  refine sw_iload_n O (xx_dt dd_L_border 3 rfl) rfl ?_
  refine xx_wid (k' := 0 + k9) (n' := 0 + n9) (by omega) (by omega) (sw_callVc (hh := hh_L_border) (as := [.int p0, .int p1]) (st := [.ref 4500]) (k := 0) (n := 0) O hC ce_X7_border ml_L_23 iv_X7_border cl_X7 rfl h0 (xx_dt dd_L_border 4 rfl) (Nat.le_refl _) rfl rfl (Nat.le_of_ble_eq_true rfl) (fun v h' q _ => ?_) HT (fun E h' q _ => ?_))
  · obtain ⟨q1, rfl⟩ := q
    cases o with
    | inr E => cases q1
    | inl w =>
      cases q1
      show SW Y 0 0 h' 7 [.ref 1000, .int p0, .int p1, .ref 4500, xx_d] [.int w, .ref 4500]
      refine sw_i2l O (xx_dt dd_L_border 5 rfl) ?_
      refine sw_put (h2 := xx_up h' 4500 (14, 2, updV F 0 (.long (Int32.toInt64 w)))) O (xx_dt dd_L_border 6 rfl) cl_X8 fl_L_13 hO (by decide) (by omega) rfl (fun _ => ⟨rfl, rfl⟩) rfl ?_
      refine sw_goto (tgt := 26) O (xx_dt dd_L_border 7 rfl) (by decide) ?_
      refine sw_iconst (x := 0) O (xx_dt dd_L_border 17 rfl) (by decide) ?_
      exact sw_iret O (xx_dt dd_L_border 18 rfl) rfl rfl (by rw [hQ]; exact ⟨rfl, rfl⟩)
  · obtain ⟨q1, rfl⟩ := q
    cases o with
    | inl w => cases q1
    | inr E9 =>
      cases q1
      rcases hE _ rfl with rfl | rfl | rfl
      · refine ⟨14, ⟨[], ⟨0, 11, 14, 27⟩, [⟨0, 11, 18, 19⟩, ⟨0, 11, 22, 21⟩], rfl, fun z hz => absurd hz List.not_mem_nil, rfl, by decide, ck_L_27, ex_IOB, rfl⟩, ?_⟩
        refine .inl ⟨4, (xx_dt dd_L_border 8 rfl), by decide, ?_⟩
        show SW Y 0 0 h' 16 [.ref 1000, .int p0, .int p1, .ref 4500, xx_d] []
        refine sw_iconst (x := 1) O (xx_dt dd_L_border 9 rfl) (by decide) ?_
        exact sw_iret O (xx_dt dd_L_border 10 rfl) rfl rfl (by rw [hQ]; exact ⟨rfl, rfl⟩)
      · refine ⟨18, ⟨[⟨0, 11, 14, 27⟩], ⟨0, 11, 18, 19⟩, [⟨0, 11, 22, 21⟩], rfl, fun z hz => by
          simp only [List.mem_cons, List.not_mem_nil, or_false] at hz
          rcases hz with rfl
          · exact ⟨by decide, _, ck_L_27, (.head _)⟩, rfl, by decide, ck_L_19, ex_IAE, rfl⟩, ?_⟩
        refine .inl ⟨4, (xx_dt dd_L_border 11 rfl), by decide, ?_⟩
        show SW Y 0 0 h' 20 [.ref 1000, .int p0, .int p1, .ref 4500, xx_d] []
        refine sw_iconst (x := 2) O (xx_dt dd_L_border 12 rfl) (by decide) ?_
        exact sw_iret O (xx_dt dd_L_border 13 rfl) rfl rfl (by rw [hQ]; exact ⟨rfl, rfl⟩)
      · refine ⟨22, ⟨[⟨0, 11, 14, 27⟩, ⟨0, 11, 18, 19⟩], ⟨0, 11, 22, 21⟩, [], rfl, fun z hz => by
          simp only [List.mem_cons, List.not_mem_nil, or_false] at hz
          rcases hz with rfl | rfl
          · exact ⟨by decide, _, ck_L_27, (.tail _ (.head _))⟩
          · exact ⟨by decide, _, ck_L_19, (.tail _ (.tail _ (.head _)))⟩, rfl, by decide, ck_L_21, ex_ISE, rfl⟩, ?_⟩
        refine .inl ⟨4, (xx_dt dd_L_border 14 rfl), by decide, ?_⟩
        show SW Y 0 0 h' 24 [.ref 1000, .int p0, .int p1, .ref 4500, xx_d] []
        refine sw_iconst (x := 3) O (xx_dt dd_L_border 15 rfl) (by decide) ?_
        exact sw_iret O (xx_dt dd_L_border 16 rfl) rfl rfl (by rw [hQ]; exact ⟨rfl, rfl⟩)
theorem lw_bidder {l : Launch} {h h2 : XH} (hl : l.stackTraces = false) {d9 k9 n9 : Nat} {p0 p1 p2 p3 : Int32} {o : Int32 ⊕ String} {f0 F : Nat → Value} (hC : XEo l m_X7_bidder d9 k9 n9 [.ref 1000, .int p0, .int p1, .int p2, .int p3] h (xoi o) h2) (h0 : h 1000 = some (13, 12, f0)) (hO : h2 4500 = some (14, 2, F)) (hE : ∀ E, o = .inr E → E = eIAE ∨ E = eISE) : XMetH l m_L_bidder hh_L_bidder (d9 + 1) k9 n9 [.ref 1000, .int p0, .int p1, .int p2, .int p3, .ref 4500] h (fun o' g => o' = .inl (some (.int (lw_k [eIAE, eISE] o))) ∧ g = lw_g h2 F o Int32.toInt64) := by
  refine XMetH.of hl rfl rfl (Nat.le_of_ble_eq_true rfl) (fun E g q => by cases q.1) (fun Y O HT hh hQ => ?_)
  show SW Y k9 n9 h 0 [.ref 1000, .int p0, .int p1, .int p2, .int p3, .ref 4500, xx_d] []
  refine sw_aload O (xx_dt dd_L_bidder 0 rfl) rfl ?_
  refine sw_aload_n O (xx_dt dd_L_bidder 1 rfl) rfl ?_
  refine sw_iload_n O (xx_dt dd_L_bidder 2 rfl) rfl ?_
  refine sw_iload_n O (xx_dt dd_L_bidder 3 rfl) rfl ?_
  refine sw_iload_n O (xx_dt dd_L_bidder 4 rfl) rfl ?_
  refine sw_iload O (xx_dt dd_L_bidder 5 rfl) rfl ?_
  refine xx_wid (k' := 0 + k9) (n' := 0 + n9) (by omega) (by omega) (sw_callVc (hh := hh_L_bidder) (as := [.int p0, .int p1, .int p2, .int p3]) (st := [.ref 4500]) (k := 0) (n := 0) O hC ce_X7_bidder ml_L_29 iv_X7_bidder cl_X7 rfl h0 (xx_dt dd_L_bidder 6 rfl) (Nat.le_refl _) rfl rfl (Nat.le_of_ble_eq_true rfl) (fun v h' q _ => ?_) HT (fun E h' q _ => ?_))
  · obtain ⟨q1, rfl⟩ := q
    cases o with
    | inr E => cases q1
    | inl w =>
      cases q1
      show SW Y 0 0 h' 11 [.ref 1000, .int p0, .int p1, .int p2, .int p3, .ref 4500, xx_d] [.int w, .ref 4500]
      refine sw_i2l O (xx_dt dd_L_bidder 7 rfl) ?_
      refine sw_put (h2 := xx_up h' 4500 (14, 2, updV F 0 (.long (Int32.toInt64 w)))) O (xx_dt dd_L_bidder 8 rfl) cl_X8 fl_L_13 hO (by decide) (by omega) rfl (fun _ => ⟨rfl, rfl⟩) rfl ?_
      refine sw_goto (tgt := 26) O (xx_dt dd_L_bidder 9 rfl) (by decide) ?_
      refine sw_iconst (x := 0) O (xx_dt dd_L_bidder 16 rfl) (by decide) ?_
      exact sw_iret O (xx_dt dd_L_bidder 17 rfl) rfl rfl (by rw [hQ]; exact ⟨rfl, rfl⟩)
  · obtain ⟨q1, rfl⟩ := q
    cases o with
    | inl w => cases q1
    | inr E9 =>
      cases q1
      rcases hE _ rfl with rfl | rfl
      · refine ⟨18, ⟨[], ⟨0, 15, 18, 19⟩, [⟨0, 15, 22, 21⟩], rfl, fun z hz => absurd hz List.not_mem_nil, rfl, by decide, ck_L_19, ex_IAE, rfl⟩, ?_⟩
        refine .inl ⟨6, (xx_dt dd_L_bidder 10 rfl), by decide, ?_⟩
        show SW Y 0 0 h' 20 [.ref 1000, .int p0, .int p1, .int p2, .int p3, .ref 4500, xx_d] []
        refine sw_iconst (x := 1) O (xx_dt dd_L_bidder 11 rfl) (by decide) ?_
        exact sw_iret O (xx_dt dd_L_bidder 12 rfl) rfl rfl (by rw [hQ]; exact ⟨rfl, rfl⟩)
      · refine ⟨22, ⟨[⟨0, 15, 18, 19⟩], ⟨0, 15, 22, 21⟩, [], rfl, fun z hz => by
          simp only [List.mem_cons, List.not_mem_nil, or_false] at hz
          rcases hz with rfl
          · exact ⟨by decide, _, ck_L_19, (.tail _ (.tail _ (.head _)))⟩, rfl, by decide, ck_L_21, ex_ISE, rfl⟩, ?_⟩
        refine .inl ⟨6, (xx_dt dd_L_bidder 13 rfl), by decide, ?_⟩
        show SW Y 0 0 h' 24 [.ref 1000, .int p0, .int p1, .int p2, .int p3, .ref 4500, xx_d] []
        refine sw_iconst (x := 2) O (xx_dt dd_L_bidder 14 rfl) (by decide) ?_
        exact sw_iret O (xx_dt dd_L_bidder 15 rfl) rfl rfl (by rw [hQ]; exact ⟨rfl, rfl⟩)
theorem lw_rules {l : Launch} {h h2 : XH} (hl : l.stackTraces = false) {d9 k9 n9 : Nat} {p0 p1 : Int32} {o : Int32 ⊕ String} {f0 F : Nat → Value} (hC : XEo l m_X7_rules d9 k9 n9 [.ref 1000, .int p0, .int p1] h (xoi o) h2) (h0 : h 1000 = some (13, 12, f0)) (hO : h2 4500 = some (14, 2, F)) (hE : ∀ E, o = .inr E → E = eIAE ∨ E = eISE) : XMetH l m_L_rules hh_L_rules (d9 + 1) k9 n9 [.ref 1000, .int p0, .int p1, .ref 4500] h (fun o' g => o' = .inl (some (.int (lw_k [eIAE, eISE] o))) ∧ g = lw_g h2 F o Int32.toInt64) := by
  refine XMetH.of hl rfl rfl (Nat.le_of_ble_eq_true rfl) (fun E g q => by cases q.1) (fun Y O HT hh hQ => ?_)
  show SW Y k9 n9 h 0 [.ref 1000, .int p0, .int p1, .ref 4500, xx_d] []
  refine sw_aload_n O (xx_dt dd_L_rules 0 rfl) rfl ?_
  refine sw_aload_n O (xx_dt dd_L_rules 1 rfl) rfl ?_
  refine sw_iload_n O (xx_dt dd_L_rules 2 rfl) rfl ?_
  refine sw_iload_n O (xx_dt dd_L_rules 3 rfl) rfl ?_
  refine xx_wid (k' := 0 + k9) (n' := 0 + n9) (by omega) (by omega) (sw_callVc (hh := hh_L_rules) (as := [.int p0, .int p1]) (st := [.ref 4500]) (k := 0) (n := 0) O hC ce_X7_rules ml_L_33 iv_X7_rules cl_X7 rfl h0 (xx_dt dd_L_rules 4 rfl) (Nat.le_refl _) rfl rfl (Nat.le_of_ble_eq_true rfl) (fun v h' q _ => ?_) HT (fun E h' q _ => ?_))
  · obtain ⟨q1, rfl⟩ := q
    cases o with
    | inr E => cases q1
    | inl w =>
      cases q1
      show SW Y 0 0 h' 7 [.ref 1000, .int p0, .int p1, .ref 4500, xx_d] [.int w, .ref 4500]
      refine sw_i2l O (xx_dt dd_L_rules 5 rfl) ?_
      refine sw_put (h2 := xx_up h' 4500 (14, 2, updV F 0 (.long (Int32.toInt64 w)))) O (xx_dt dd_L_rules 6 rfl) cl_X8 fl_L_13 hO (by decide) (by omega) rfl (fun _ => ⟨rfl, rfl⟩) rfl ?_
      refine sw_goto (tgt := 22) O (xx_dt dd_L_rules 7 rfl) (by decide) ?_
      refine sw_iconst (x := 0) O (xx_dt dd_L_rules 14 rfl) (by decide) ?_
      exact sw_iret O (xx_dt dd_L_rules 15 rfl) rfl rfl (by rw [hQ]; exact ⟨rfl, rfl⟩)
  · obtain ⟨q1, rfl⟩ := q
    cases o with
    | inl w => cases q1
    | inr E9 =>
      cases q1
      rcases hE _ rfl with rfl | rfl
      · refine ⟨14, ⟨[], ⟨0, 11, 14, 19⟩, [⟨0, 11, 18, 21⟩], rfl, fun z hz => absurd hz List.not_mem_nil, rfl, by decide, ck_L_19, ex_IAE, rfl⟩, ?_⟩
        refine .inl ⟨4, (xx_dt dd_L_rules 8 rfl), by decide, ?_⟩
        show SW Y 0 0 h' 16 [.ref 1000, .int p0, .int p1, .ref 4500, xx_d] []
        refine sw_iconst (x := 1) O (xx_dt dd_L_rules 9 rfl) (by decide) ?_
        exact sw_iret O (xx_dt dd_L_rules 10 rfl) rfl rfl (by rw [hQ]; exact ⟨rfl, rfl⟩)
      · refine ⟨18, ⟨[⟨0, 11, 14, 19⟩], ⟨0, 11, 18, 21⟩, [], rfl, fun z hz => by
          simp only [List.mem_cons, List.not_mem_nil, or_false] at hz
          rcases hz with rfl
          · exact ⟨by decide, _, ck_L_19, (.tail _ (.tail _ (.head _)))⟩, rfl, by decide, ck_L_21, ex_ISE, rfl⟩, ?_⟩
        refine .inl ⟨4, (xx_dt dd_L_rules 11 rfl), by decide, ?_⟩
        show SW Y 0 0 h' 20 [.ref 1000, .int p0, .int p1, .ref 4500, xx_d] []
        refine sw_iconst (x := 2) O (xx_dt dd_L_rules 12 rfl) (by decide) ?_
        exact sw_iret O (xx_dt dd_L_rules 13 rfl) rfl rfl (by rw [hQ]; exact ⟨rfl, rfl⟩)
theorem lw_step {l : Launch} {h h2 : XH} (hl : l.stackTraces = false) {d9 k9 n9 : Nat} {p0 : Int32} {o : Int32 ⊕ String} {f0 F : Nat → Value} (hC : XEo l m_X7_step d9 k9 n9 [.ref 1000, .int p0] h (xoi o) h2) (h0 : h 1000 = some (13, 12, f0)) (hO : h2 4500 = some (14, 2, F)) (hE : ∀ E, o = .inr E → E = eIAE ∨ E = eISE) : XMetH l m_L_step hh_L_step (d9 + 1) k9 n9 [.ref 1000, .int p0, .ref 4500] h (fun o' g => o' = .inl (some (.int (lw_k [eIAE, eISE] o))) ∧ g = lw_g h2 F o Int32.toInt64) := by
  refine XMetH.of hl rfl rfl (Nat.le_of_ble_eq_true rfl) (fun E g q => by cases q.1) (fun Y O HT hh hQ => ?_)
  show SW Y k9 n9 h 0 [.ref 1000, .int p0, .ref 4500, xx_d] []
  refine sw_aload_n O (xx_dt dd_L_step 0 rfl) rfl ?_
  refine sw_aload_n O (xx_dt dd_L_step 1 rfl) rfl ?_
  refine sw_iload_n O (xx_dt dd_L_step 2 rfl) rfl ?_
  refine xx_wid (k' := 0 + k9) (n' := 0 + n9) (by omega) (by omega) (sw_callVc (hh := hh_L_step) (as := [.int p0]) (st := [.ref 4500]) (k := 0) (n := 0) O hC ce_X7_step ml_L_37 iv_X7_step cl_X7 rfl h0 (xx_dt dd_L_step 3 rfl) (Nat.le_refl _) rfl rfl (Nat.le_of_ble_eq_true rfl) (fun v h' q _ => ?_) HT (fun E h' q _ => ?_))
  · obtain ⟨q1, rfl⟩ := q
    cases o with
    | inr E => cases q1
    | inl w =>
      cases q1
      show SW Y 0 0 h' 6 [.ref 1000, .int p0, .ref 4500, xx_d] [.int w, .ref 4500]
      refine sw_i2l O (xx_dt dd_L_step 4 rfl) ?_
      refine sw_put (h2 := xx_up h' 4500 (14, 2, updV F 0 (.long (Int32.toInt64 w)))) O (xx_dt dd_L_step 5 rfl) cl_X8 fl_L_13 hO (by decide) (by omega) rfl (fun _ => ⟨rfl, rfl⟩) rfl ?_
      refine sw_goto (tgt := 19) O (xx_dt dd_L_step 6 rfl) (by decide) ?_
      refine sw_iconst (x := 0) O (xx_dt dd_L_step 13 rfl) (by decide) ?_
      exact sw_iret O (xx_dt dd_L_step 14 rfl) rfl rfl (by rw [hQ]; exact ⟨rfl, rfl⟩)
  · obtain ⟨q1, rfl⟩ := q
    cases o with
    | inl w => cases q1
    | inr E9 =>
      cases q1
      rcases hE _ rfl with rfl | rfl
      · refine ⟨13, ⟨[], ⟨0, 10, 13, 19⟩, [⟨0, 10, 16, 21⟩], rfl, fun z hz => absurd hz List.not_mem_nil, rfl, by decide, ck_L_19, ex_IAE, rfl⟩, ?_⟩
        refine .inr ⟨3, (xx_dt dd_L_step 7 rfl), by decide, ?_⟩
        show SW Y 0 0 h' 14 [.ref 1000, .int p0, .ref 4500, xx_d] []
        refine sw_iconst (x := 1) O (xx_dt dd_L_step 8 rfl) (by decide) ?_
        exact sw_iret O (xx_dt dd_L_step 9 rfl) rfl rfl (by rw [hQ]; exact ⟨rfl, rfl⟩)
      · refine ⟨16, ⟨[⟨0, 10, 13, 19⟩], ⟨0, 10, 16, 21⟩, [], rfl, fun z hz => by
          simp only [List.mem_cons, List.not_mem_nil, or_false] at hz
          rcases hz with rfl
          · exact ⟨by decide, _, ck_L_19, (.tail _ (.tail _ (.head _)))⟩, rfl, by decide, ck_L_21, ex_ISE, rfl⟩, ?_⟩
        refine .inr ⟨3, (xx_dt dd_L_step 10 rfl), by decide, ?_⟩
        show SW Y 0 0 h' 17 [.ref 1000, .int p0, .ref 4500, xx_d] []
        refine sw_iconst (x := 2) O (xx_dt dd_L_step 11 rfl) (by decide) ?_
        exact sw_iret O (xx_dt dd_L_step 12 rfl) rfl rfl (by rw [hQ]; exact ⟨rfl, rfl⟩)
theorem lw_open {l : Launch} {h h2 : XH} (hl : l.stackTraces = false) {d9 k9 n9 : Nat} {o : Int32 ⊕ String} {f0 F : Nat → Value} (hC : XEo l m_X7_open d9 k9 n9 [.ref 1000] h (xoi o) h2) (h0 : h 1000 = some (13, 12, f0)) (hO : h2 4500 = some (14, 2, F)) (hE : ∀ E, o = .inr E → E = eISE) : XMetH l m_L_open hh_L_open (d9 + 1) k9 n9 [.ref 1000, .ref 4500] h (fun o' g => o' = .inl (some (.int (lw_k [eISE] o))) ∧ g = lw_g h2 F o Int32.toInt64) := by
  refine XMetH.of hl rfl rfl (Nat.le_of_ble_eq_true rfl) (fun E g q => by cases q.1) (fun Y O HT hh hQ => ?_)
  show SW Y k9 n9 h 0 [.ref 1000, .ref 4500, xx_d] []
  refine sw_aload_n O (xx_dt dd_L_open 0 rfl) rfl ?_
  refine sw_aload_n O (xx_dt dd_L_open 1 rfl) rfl ?_
  refine xx_wid (k' := 0 + k9) (n' := 0 + n9) (by omega) (by omega) (sw_callVc (hh := hh_L_open) (as := []) (st := [.ref 4500]) (k := 0) (n := 0) O hC ce_X7_open ml_L_41 iv_X7_open cl_X7 rfl h0 (xx_dt dd_L_open 2 rfl) (Nat.le_refl _) rfl rfl (Nat.le_of_ble_eq_true rfl) (fun v h' q _ => ?_) HT (fun E h' q _ => ?_))
  · obtain ⟨q1, rfl⟩ := q
    cases o with
    | inr E => cases q1
    | inl w =>
      cases q1
      show SW Y 0 0 h' 5 [.ref 1000, .ref 4500, xx_d] [.int w, .ref 4500]
      refine sw_i2l O (xx_dt dd_L_open 3 rfl) ?_
      refine sw_put (h2 := xx_up h' 4500 (14, 2, updV F 0 (.long (Int32.toInt64 w)))) O (xx_dt dd_L_open 4 rfl) cl_X8 fl_L_13 hO (by decide) (by omega) rfl (fun _ => ⟨rfl, rfl⟩) rfl ?_
      refine sw_goto (tgt := 15) O (xx_dt dd_L_open 5 rfl) (by decide) ?_
      refine sw_iconst (x := 0) O (xx_dt dd_L_open 9 rfl) (by decide) ?_
      exact sw_iret O (xx_dt dd_L_open 10 rfl) rfl rfl (by rw [hQ]; exact ⟨rfl, rfl⟩)
  · obtain ⟨q1, rfl⟩ := q
    cases o with
    | inl w => cases q1
    | inr E9 =>
      cases q1
      obtain rfl := hE _ rfl
      refine ⟨12, ⟨[], ⟨0, 9, 12, 21⟩, [], rfl, fun z hz => absurd hz List.not_mem_nil, rfl, by decide, ck_L_21, ex_ISE, rfl⟩, ?_⟩
      refine .inr ⟨2, (xx_dt dd_L_open 6 rfl), by decide, ?_⟩
      show SW Y 0 0 h' 13 [.ref 1000, .ref 4500, xx_d] []
      refine sw_iconst (x := 1) O (xx_dt dd_L_open 7 rfl) (by decide) ?_
      exact sw_iret O (xx_dt dd_L_open 8 rfl) rfl rfl (by rw [hQ]; exact ⟨rfl, rfl⟩)
theorem lw_wish {l : Launch} {h h2 : XH} (hl : l.stackTraces = false) {d9 k9 n9 : Nat} {p0 p1 p2 : Int32} {o : Int32 ⊕ String} {f0 F : Nat → Value} (hC : XEo l m_X7_wish d9 k9 n9 [.ref 1000, .int p0, .int p1, .int p2] h (xoi o) h2) (h0 : h 1000 = some (13, 12, f0)) (hO : h2 4500 = some (14, 2, F)) (hE : ∀ E, o = .inr E → E = eIOB ∨ E = eIAE ∨ E = eISE) : XMetH l m_L_wish hh_L_wish (d9 + 1) k9 n9 [.ref 1000, .int p0, .int p1, .int p2, .ref 4500] h (fun o' g => o' = .inl (some (.int (lw_k [eIOB, eIAE, eISE] o))) ∧ g = lw_g h2 F o Int32.toInt64) := by
  refine XMetH.of hl rfl rfl (Nat.le_of_ble_eq_true rfl) (fun E g q => by cases q.1) (fun Y O HT hh hQ => ?_)
  show SW Y k9 n9 h 0 [.ref 1000, .int p0, .int p1, .int p2, .ref 4500, xx_d] []
  refine sw_aload O (xx_dt dd_L_wish 0 rfl) rfl ?_
  refine sw_aload_n O (xx_dt dd_L_wish 1 rfl) rfl ?_
  refine sw_iload_n O (xx_dt dd_L_wish 2 rfl) rfl ?_
  refine sw_iload_n O (xx_dt dd_L_wish 3 rfl) rfl ?_
  refine sw_iload_n O (xx_dt dd_L_wish 4 rfl) rfl ?_
  refine xx_wid (k' := 0 + k9) (n' := 0 + n9) (by omega) (by omega) (sw_callVc (hh := hh_L_wish) (as := [.int p0, .int p1, .int p2]) (st := [.ref 4500]) (k := 0) (n := 0) O hC ce_X7_wish ml_L_45 iv_X7_wish cl_X7 rfl h0 (xx_dt dd_L_wish 5 rfl) (Nat.le_refl _) rfl rfl (Nat.le_of_ble_eq_true rfl) (fun v h' q _ => ?_) HT (fun E h' q _ => ?_))
  · obtain ⟨q1, rfl⟩ := q
    cases o with
    | inr E => cases q1
    | inl w =>
      cases q1
      show SW Y 0 0 h' 9 [.ref 1000, .int p0, .int p1, .int p2, .ref 4500, xx_d] [.int w, .ref 4500]
      refine sw_i2l O (xx_dt dd_L_wish 6 rfl) ?_
      refine sw_put (h2 := xx_up h' 4500 (14, 2, updV F 0 (.long (Int32.toInt64 w)))) O (xx_dt dd_L_wish 7 rfl) cl_X8 fl_L_13 hO (by decide) (by omega) rfl (fun _ => ⟨rfl, rfl⟩) rfl ?_
      refine sw_goto (tgt := 28) O (xx_dt dd_L_wish 8 rfl) (by decide) ?_
      refine sw_iconst (x := 0) O (xx_dt dd_L_wish 18 rfl) (by decide) ?_
      exact sw_iret O (xx_dt dd_L_wish 19 rfl) rfl rfl (by rw [hQ]; exact ⟨rfl, rfl⟩)
  · obtain ⟨q1, rfl⟩ := q
    cases o with
    | inl w => cases q1
    | inr E9 =>
      cases q1
      rcases hE _ rfl with rfl | rfl | rfl
      · refine ⟨16, ⟨[], ⟨0, 13, 16, 27⟩, [⟨0, 13, 20, 19⟩, ⟨0, 13, 24, 21⟩], rfl, fun z hz => absurd hz List.not_mem_nil, rfl, by decide, ck_L_27, ex_IOB, rfl⟩, ?_⟩
        refine .inl ⟨5, (xx_dt dd_L_wish 9 rfl), by decide, ?_⟩
        show SW Y 0 0 h' 18 [.ref 1000, .int p0, .int p1, .int p2, .ref 4500, xx_d] []
        refine sw_iconst (x := 1) O (xx_dt dd_L_wish 10 rfl) (by decide) ?_
        exact sw_iret O (xx_dt dd_L_wish 11 rfl) rfl rfl (by rw [hQ]; exact ⟨rfl, rfl⟩)
      · refine ⟨20, ⟨[⟨0, 13, 16, 27⟩], ⟨0, 13, 20, 19⟩, [⟨0, 13, 24, 21⟩], rfl, fun z hz => by
          simp only [List.mem_cons, List.not_mem_nil, or_false] at hz
          rcases hz with rfl
          · exact ⟨by decide, _, ck_L_27, (.head _)⟩, rfl, by decide, ck_L_19, ex_IAE, rfl⟩, ?_⟩
        refine .inl ⟨5, (xx_dt dd_L_wish 12 rfl), by decide, ?_⟩
        show SW Y 0 0 h' 22 [.ref 1000, .int p0, .int p1, .int p2, .ref 4500, xx_d] []
        refine sw_iconst (x := 2) O (xx_dt dd_L_wish 13 rfl) (by decide) ?_
        exact sw_iret O (xx_dt dd_L_wish 14 rfl) rfl rfl (by rw [hQ]; exact ⟨rfl, rfl⟩)
      · refine ⟨24, ⟨[⟨0, 13, 16, 27⟩, ⟨0, 13, 20, 19⟩], ⟨0, 13, 24, 21⟩, [], rfl, fun z hz => by
          simp only [List.mem_cons, List.not_mem_nil, or_false] at hz
          rcases hz with rfl | rfl
          · exact ⟨by decide, _, ck_L_27, (.tail _ (.head _))⟩
          · exact ⟨by decide, _, ck_L_19, (.tail _ (.tail _ (.head _)))⟩, rfl, by decide, ck_L_21, ex_ISE, rfl⟩, ?_⟩
        refine .inl ⟨5, (xx_dt dd_L_wish 15 rfl), by decide, ?_⟩
        show SW Y 0 0 h' 26 [.ref 1000, .int p0, .int p1, .int p2, .ref 4500, xx_d] []
        refine sw_iconst (x := 3) O (xx_dt dd_L_wish 16 rfl) (by decide) ?_
        exact sw_iret O (xx_dt dd_L_wish 17 rfl) rfl rfl (by rw [hQ]; exact ⟨rfl, rfl⟩)
theorem lw_waive {l : Launch} {h h2 : XH} (hl : l.stackTraces = false) {d9 k9 n9 : Nat} {p0 : Int32} {o : Int32 ⊕ String} {f0 F : Nat → Value} (hC : XEo l m_X7_waive d9 k9 n9 [.ref 1000, .int p0] h (xoi o) h2) (h0 : h 1000 = some (13, 12, f0)) (hO : h2 4500 = some (14, 2, F)) (hE : ∀ E, o = .inr E → E = eIOB ∨ E = eISE) : XMetH l m_L_waive hh_L_waive (d9 + 1) k9 n9 [.ref 1000, .int p0, .ref 4500] h (fun o' g => o' = .inl (some (.int (lw_k [eIOB, eISE] o))) ∧ g = lw_g h2 F o Int32.toInt64) := by
  refine XMetH.of hl rfl rfl (Nat.le_of_ble_eq_true rfl) (fun E g q => by cases q.1) (fun Y O HT hh hQ => ?_)
  show SW Y k9 n9 h 0 [.ref 1000, .int p0, .ref 4500, xx_d] []
  refine sw_aload_n O (xx_dt dd_L_waive 0 rfl) rfl ?_
  refine sw_aload_n O (xx_dt dd_L_waive 1 rfl) rfl ?_
  refine sw_iload_n O (xx_dt dd_L_waive 2 rfl) rfl ?_
  refine xx_wid (k' := 0 + k9) (n' := 0 + n9) (by omega) (by omega) (sw_callVc (hh := hh_L_waive) (as := [.int p0]) (st := [.ref 4500]) (k := 0) (n := 0) O hC ce_X7_waive ml_L_48 iv_X7_waive cl_X7 rfl h0 (xx_dt dd_L_waive 3 rfl) (Nat.le_refl _) rfl rfl (Nat.le_of_ble_eq_true rfl) (fun v h' q _ => ?_) HT (fun E h' q _ => ?_))
  · obtain ⟨q1, rfl⟩ := q
    cases o with
    | inr E => cases q1
    | inl w =>
      cases q1
      show SW Y 0 0 h' 6 [.ref 1000, .int p0, .ref 4500, xx_d] [.int w, .ref 4500]
      refine sw_i2l O (xx_dt dd_L_waive 4 rfl) ?_
      refine sw_put (h2 := xx_up h' 4500 (14, 2, updV F 0 (.long (Int32.toInt64 w)))) O (xx_dt dd_L_waive 5 rfl) cl_X8 fl_L_13 hO (by decide) (by omega) rfl (fun _ => ⟨rfl, rfl⟩) rfl ?_
      refine sw_goto (tgt := 19) O (xx_dt dd_L_waive 6 rfl) (by decide) ?_
      refine sw_iconst (x := 0) O (xx_dt dd_L_waive 13 rfl) (by decide) ?_
      exact sw_iret O (xx_dt dd_L_waive 14 rfl) rfl rfl (by rw [hQ]; exact ⟨rfl, rfl⟩)
  · obtain ⟨q1, rfl⟩ := q
    cases o with
    | inl w => cases q1
    | inr E9 =>
      cases q1
      rcases hE _ rfl with rfl | rfl
      · refine ⟨13, ⟨[], ⟨0, 10, 13, 27⟩, [⟨0, 10, 16, 21⟩], rfl, fun z hz => absurd hz List.not_mem_nil, rfl, by decide, ck_L_27, ex_IOB, rfl⟩, ?_⟩
        refine .inr ⟨3, (xx_dt dd_L_waive 7 rfl), by decide, ?_⟩
        show SW Y 0 0 h' 14 [.ref 1000, .int p0, .ref 4500, xx_d] []
        refine sw_iconst (x := 1) O (xx_dt dd_L_waive 8 rfl) (by decide) ?_
        exact sw_iret O (xx_dt dd_L_waive 9 rfl) rfl rfl (by rw [hQ]; exact ⟨rfl, rfl⟩)
      · refine ⟨16, ⟨[⟨0, 10, 13, 27⟩], ⟨0, 10, 16, 21⟩, [], rfl, fun z hz => by
          simp only [List.mem_cons, List.not_mem_nil, or_false] at hz
          rcases hz with rfl
          · exact ⟨by decide, _, ck_L_27, (.tail _ (.head _))⟩, rfl, by decide, ck_L_21, ex_ISE, rfl⟩, ?_⟩
        refine .inr ⟨3, (xx_dt dd_L_waive 10 rfl), by decide, ?_⟩
        show SW Y 0 0 h' 17 [.ref 1000, .int p0, .ref 4500, xx_d] []
        refine sw_iconst (x := 2) O (xx_dt dd_L_waive 11 rfl) (by decide) ?_
        exact sw_iret O (xx_dt dd_L_waive 12 rfl) rfl rfl (by rw [hQ]; exact ⟨rfl, rfl⟩)
theorem lw_close {l : Launch} {h h2 : XH} (hl : l.stackTraces = false) {d9 k9 n9 : Nat} {p0 : Int32} {o : Int32 ⊕ String} {f0 F : Nat → Value} (hC : XEo l m_X7_close d9 k9 n9 [.ref 1000, .int p0] h (xoi o) h2) (h0 : h 1000 = some (13, 12, f0)) (hO : h2 4500 = some (14, 2, F)) (hE : ∀ E, o = .inr E → E = eIAE ∨ E = eISE) : XMetH l m_L_close hh_L_close (d9 + 1) k9 n9 [.ref 1000, .int p0, .ref 4500] h (fun o' g => o' = .inl (some (.int (lw_k [eIAE, eISE] o))) ∧ g = lw_g h2 F o Int32.toInt64) := by
  refine XMetH.of hl rfl rfl (Nat.le_of_ble_eq_true rfl) (fun E g q => by cases q.1) (fun Y O HT hh hQ => ?_)
  show SW Y k9 n9 h 0 [.ref 1000, .int p0, .ref 4500, xx_d] []
  refine sw_aload_n O (xx_dt dd_L_close 0 rfl) rfl ?_
  refine sw_aload_n O (xx_dt dd_L_close 1 rfl) rfl ?_
  refine sw_iload_n O (xx_dt dd_L_close 2 rfl) rfl ?_
  refine xx_wid (k' := 0 + k9) (n' := 0 + n9) (by omega) (by omega) (sw_callVc (hh := hh_L_close) (as := [.int p0]) (st := [.ref 4500]) (k := 0) (n := 0) O hC ce_X7_close ml_L_51 iv_X7_close cl_X7 rfl h0 (xx_dt dd_L_close 3 rfl) (Nat.le_refl _) rfl rfl (Nat.le_of_ble_eq_true rfl) (fun v h' q _ => ?_) HT (fun E h' q _ => ?_))
  · obtain ⟨q1, rfl⟩ := q
    cases o with
    | inr E => cases q1
    | inl w =>
      cases q1
      show SW Y 0 0 h' 6 [.ref 1000, .int p0, .ref 4500, xx_d] [.int w, .ref 4500]
      refine sw_i2l O (xx_dt dd_L_close 4 rfl) ?_
      refine sw_put (h2 := xx_up h' 4500 (14, 2, updV F 0 (.long (Int32.toInt64 w)))) O (xx_dt dd_L_close 5 rfl) cl_X8 fl_L_13 hO (by decide) (by omega) rfl (fun _ => ⟨rfl, rfl⟩) rfl ?_
      refine sw_goto (tgt := 19) O (xx_dt dd_L_close 6 rfl) (by decide) ?_
      refine sw_iconst (x := 0) O (xx_dt dd_L_close 13 rfl) (by decide) ?_
      exact sw_iret O (xx_dt dd_L_close 14 rfl) rfl rfl (by rw [hQ]; exact ⟨rfl, rfl⟩)
  · obtain ⟨q1, rfl⟩ := q
    cases o with
    | inl w => cases q1
    | inr E9 =>
      cases q1
      rcases hE _ rfl with rfl | rfl
      · refine ⟨13, ⟨[], ⟨0, 10, 13, 19⟩, [⟨0, 10, 16, 21⟩], rfl, fun z hz => absurd hz List.not_mem_nil, rfl, by decide, ck_L_19, ex_IAE, rfl⟩, ?_⟩
        refine .inr ⟨3, (xx_dt dd_L_close 7 rfl), by decide, ?_⟩
        show SW Y 0 0 h' 14 [.ref 1000, .int p0, .ref 4500, xx_d] []
        refine sw_iconst (x := 1) O (xx_dt dd_L_close 8 rfl) (by decide) ?_
        exact sw_iret O (xx_dt dd_L_close 9 rfl) rfl rfl (by rw [hQ]; exact ⟨rfl, rfl⟩)
      · refine ⟨16, ⟨[⟨0, 10, 13, 19⟩], ⟨0, 10, 16, 21⟩, [], rfl, fun z hz => by
          simp only [List.mem_cons, List.not_mem_nil, or_false] at hz
          rcases hz with rfl
          · exact ⟨by decide, _, ck_L_19, (.tail _ (.tail _ (.head _)))⟩, rfl, by decide, ck_L_21, ex_ISE, rfl⟩, ?_⟩
        refine .inr ⟨3, (xx_dt dd_L_close 10 rfl), by decide, ?_⟩
        show SW Y 0 0 h' 17 [.ref 1000, .int p0, .ref 4500, xx_d] []
        refine sw_iconst (x := 2) O (xx_dt dd_L_close 11 rfl) (by decide) ?_
        exact sw_iret O (xx_dt dd_L_close 12 rfl) rfl rfl (by rw [hQ]; exact ⟨rfl, rfl⟩)
theorem lw_offer {l : Launch} {h h2 : XH} (hl : l.stackTraces = false) {d9 k9 n9 : Nat} {p0 p1 p2 : Int32} {o : Int32 ⊕ String} {f0 F : Nat → Value} (hC : XEo l m_X7_offer d9 k9 n9 [.ref 1000, .int p0, .int p1, .int p2] h (xoi o) h2) (h0 : h 1000 = some (13, 12, f0)) (hO : h2 4500 = some (14, 2, F)) (hE : ∀ E, o = .inr E → E = eIOB ∨ E = eIAE ∨ E = eISE) : XMetH l m_L_offer hh_L_offer (d9 + 1) k9 n9 [.ref 1000, .int p0, .int p1, .int p2, .ref 4500] h (fun o' g => o' = .inl (some (.int (lw_k [eIOB, eIAE, eISE] o))) ∧ g = lw_g h2 F o Int32.toInt64) := by
  refine XMetH.of hl rfl rfl (Nat.le_of_ble_eq_true rfl) (fun E g q => by cases q.1) (fun Y O HT hh hQ => ?_)
  show SW Y k9 n9 h 0 [.ref 1000, .int p0, .int p1, .int p2, .ref 4500, xx_d] []
  refine sw_aload O (xx_dt dd_L_offer 0 rfl) rfl ?_
  refine sw_aload_n O (xx_dt dd_L_offer 1 rfl) rfl ?_
  refine sw_iload_n O (xx_dt dd_L_offer 2 rfl) rfl ?_
  refine sw_iload_n O (xx_dt dd_L_offer 3 rfl) rfl ?_
  refine sw_iload_n O (xx_dt dd_L_offer 4 rfl) rfl ?_
  refine xx_wid (k' := 0 + k9) (n' := 0 + n9) (by omega) (by omega) (sw_callVc (hh := hh_L_offer) (as := [.int p0, .int p1, .int p2]) (st := [.ref 4500]) (k := 0) (n := 0) O hC ce_X7_offer ml_L_54 iv_X7_offer cl_X7 rfl h0 (xx_dt dd_L_offer 5 rfl) (Nat.le_refl _) rfl rfl (Nat.le_of_ble_eq_true rfl) (fun v h' q _ => ?_) HT (fun E h' q _ => ?_))
  · obtain ⟨q1, rfl⟩ := q
    cases o with
    | inr E => cases q1
    | inl w =>
      cases q1
      show SW Y 0 0 h' 9 [.ref 1000, .int p0, .int p1, .int p2, .ref 4500, xx_d] [.int w, .ref 4500]
      refine sw_i2l O (xx_dt dd_L_offer 6 rfl) ?_
      refine sw_put (h2 := xx_up h' 4500 (14, 2, updV F 0 (.long (Int32.toInt64 w)))) O (xx_dt dd_L_offer 7 rfl) cl_X8 fl_L_13 hO (by decide) (by omega) rfl (fun _ => ⟨rfl, rfl⟩) rfl ?_
      refine sw_goto (tgt := 28) O (xx_dt dd_L_offer 8 rfl) (by decide) ?_
      refine sw_iconst (x := 0) O (xx_dt dd_L_offer 18 rfl) (by decide) ?_
      exact sw_iret O (xx_dt dd_L_offer 19 rfl) rfl rfl (by rw [hQ]; exact ⟨rfl, rfl⟩)
  · obtain ⟨q1, rfl⟩ := q
    cases o with
    | inl w => cases q1
    | inr E9 =>
      cases q1
      rcases hE _ rfl with rfl | rfl | rfl
      · refine ⟨16, ⟨[], ⟨0, 13, 16, 27⟩, [⟨0, 13, 20, 19⟩, ⟨0, 13, 24, 21⟩], rfl, fun z hz => absurd hz List.not_mem_nil, rfl, by decide, ck_L_27, ex_IOB, rfl⟩, ?_⟩
        refine .inl ⟨5, (xx_dt dd_L_offer 9 rfl), by decide, ?_⟩
        show SW Y 0 0 h' 18 [.ref 1000, .int p0, .int p1, .int p2, .ref 4500, xx_d] []
        refine sw_iconst (x := 1) O (xx_dt dd_L_offer 10 rfl) (by decide) ?_
        exact sw_iret O (xx_dt dd_L_offer 11 rfl) rfl rfl (by rw [hQ]; exact ⟨rfl, rfl⟩)
      · refine ⟨20, ⟨[⟨0, 13, 16, 27⟩], ⟨0, 13, 20, 19⟩, [⟨0, 13, 24, 21⟩], rfl, fun z hz => by
          simp only [List.mem_cons, List.not_mem_nil, or_false] at hz
          rcases hz with rfl
          · exact ⟨by decide, _, ck_L_27, (.head _)⟩, rfl, by decide, ck_L_19, ex_IAE, rfl⟩, ?_⟩
        refine .inl ⟨5, (xx_dt dd_L_offer 12 rfl), by decide, ?_⟩
        show SW Y 0 0 h' 22 [.ref 1000, .int p0, .int p1, .int p2, .ref 4500, xx_d] []
        refine sw_iconst (x := 2) O (xx_dt dd_L_offer 13 rfl) (by decide) ?_
        exact sw_iret O (xx_dt dd_L_offer 14 rfl) rfl rfl (by rw [hQ]; exact ⟨rfl, rfl⟩)
      · refine ⟨24, ⟨[⟨0, 13, 16, 27⟩, ⟨0, 13, 20, 19⟩], ⟨0, 13, 24, 21⟩, [], rfl, fun z hz => by
          simp only [List.mem_cons, List.not_mem_nil, or_false] at hz
          rcases hz with rfl | rfl
          · exact ⟨by decide, _, ck_L_27, (.tail _ (.head _))⟩
          · exact ⟨by decide, _, ck_L_19, (.tail _ (.tail _ (.head _)))⟩, rfl, by decide, ck_L_21, ex_ISE, rfl⟩, ?_⟩
        refine .inl ⟨5, (xx_dt dd_L_offer 15 rfl), by decide, ?_⟩
        show SW Y 0 0 h' 26 [.ref 1000, .int p0, .int p1, .int p2, .ref 4500, xx_d] []
        refine sw_iconst (x := 3) O (xx_dt dd_L_offer 16 rfl) (by decide) ?_
        exact sw_iret O (xx_dt dd_L_offer 17 rfl) rfl rfl (by rw [hQ]; exact ⟨rfl, rfl⟩)
theorem lw_settle {l : Launch} {h h2 : XH} (hl : l.stackTraces = false) {d9 k9 n9 : Nat} {p0 : Int32} {o : Int32 ⊕ String} {f0 F : Nat → Value} (hC : XEo l m_X7_settle d9 k9 n9 [.ref 1000, .int p0] h (xoi o) h2) (h0 : h 1000 = some (13, 12, f0)) (hO : h2 4500 = some (14, 2, F)) (hE : ∀ E, o = .inr E → E = eIAE ∨ E = eISE) : XMetH l m_L_settle hh_L_settle (d9 + 1) k9 n9 [.ref 1000, .int p0, .ref 4500] h (fun o' g => o' = .inl (some (.int (lw_k [eIAE, eISE] o))) ∧ g = lw_g h2 F o Int32.toInt64) := by
  refine XMetH.of hl rfl rfl (Nat.le_of_ble_eq_true rfl) (fun E g q => by cases q.1) (fun Y O HT hh hQ => ?_)
  show SW Y k9 n9 h 0 [.ref 1000, .int p0, .ref 4500, xx_d] []
  refine sw_aload_n O (xx_dt dd_L_settle 0 rfl) rfl ?_
  refine sw_aload_n O (xx_dt dd_L_settle 1 rfl) rfl ?_
  refine sw_iload_n O (xx_dt dd_L_settle 2 rfl) rfl ?_
  refine xx_wid (k' := 0 + k9) (n' := 0 + n9) (by omega) (by omega) (sw_callVc (hh := hh_L_settle) (as := [.int p0]) (st := [.ref 4500]) (k := 0) (n := 0) O hC ce_X7_settle ml_L_57 iv_X7_settle cl_X7 rfl h0 (xx_dt dd_L_settle 3 rfl) (Nat.le_refl _) rfl rfl (Nat.le_of_ble_eq_true rfl) (fun v h' q _ => ?_) HT (fun E h' q _ => ?_))
  · obtain ⟨q1, rfl⟩ := q
    cases o with
    | inr E => cases q1
    | inl w =>
      cases q1
      show SW Y 0 0 h' 6 [.ref 1000, .int p0, .ref 4500, xx_d] [.int w, .ref 4500]
      refine sw_i2l O (xx_dt dd_L_settle 4 rfl) ?_
      refine sw_put (h2 := xx_up h' 4500 (14, 2, updV F 0 (.long (Int32.toInt64 w)))) O (xx_dt dd_L_settle 5 rfl) cl_X8 fl_L_13 hO (by decide) (by omega) rfl (fun _ => ⟨rfl, rfl⟩) rfl ?_
      refine sw_goto (tgt := 19) O (xx_dt dd_L_settle 6 rfl) (by decide) ?_
      refine sw_iconst (x := 0) O (xx_dt dd_L_settle 13 rfl) (by decide) ?_
      exact sw_iret O (xx_dt dd_L_settle 14 rfl) rfl rfl (by rw [hQ]; exact ⟨rfl, rfl⟩)
  · obtain ⟨q1, rfl⟩ := q
    cases o with
    | inl w => cases q1
    | inr E9 =>
      cases q1
      rcases hE _ rfl with rfl | rfl
      · refine ⟨13, ⟨[], ⟨0, 10, 13, 19⟩, [⟨0, 10, 16, 21⟩], rfl, fun z hz => absurd hz List.not_mem_nil, rfl, by decide, ck_L_19, ex_IAE, rfl⟩, ?_⟩
        refine .inr ⟨3, (xx_dt dd_L_settle 7 rfl), by decide, ?_⟩
        show SW Y 0 0 h' 14 [.ref 1000, .int p0, .ref 4500, xx_d] []
        refine sw_iconst (x := 1) O (xx_dt dd_L_settle 8 rfl) (by decide) ?_
        exact sw_iret O (xx_dt dd_L_settle 9 rfl) rfl rfl (by rw [hQ]; exact ⟨rfl, rfl⟩)
      · refine ⟨16, ⟨[⟨0, 10, 13, 19⟩], ⟨0, 10, 16, 21⟩, [], rfl, fun z hz => by
          simp only [List.mem_cons, List.not_mem_nil, or_false] at hz
          rcases hz with rfl
          · exact ⟨by decide, _, ck_L_19, (.tail _ (.tail _ (.head _)))⟩, rfl, by decide, ck_L_21, ex_ISE, rfl⟩, ?_⟩
        refine .inr ⟨3, (xx_dt dd_L_settle 10 rfl), by decide, ?_⟩
        show SW Y 0 0 h' 17 [.ref 1000, .int p0, .ref 4500, xx_d] []
        refine sw_iconst (x := 2) O (xx_dt dd_L_settle 11 rfl) (by decide) ?_
        exact sw_iret O (xx_dt dd_L_settle 12 rfl) rfl rfl (by rw [hQ]; exact ⟨rfl, rfl⟩)
theorem lw_fail {l : Launch} {h h2 : XH} (hl : l.stackTraces = false) {d9 k9 n9 : Nat} {p0 : Int32} {o : Int32 ⊕ String} {f0 F : Nat → Value} (hC : XEo l m_X7_fail d9 k9 n9 [.ref 1000, .int p0] h (xoi o) h2) (h0 : h 1000 = some (13, 12, f0)) (hO : h2 4500 = some (14, 2, F)) (hE : ∀ E, o = .inr E → E = eIOB ∨ E = eISE) : XMetH l m_L_fail hh_L_fail (d9 + 1) k9 n9 [.ref 1000, .int p0, .ref 4500] h (fun o' g => o' = .inl (some (.int (lw_k [eIOB, eISE] o))) ∧ g = lw_g h2 F o Int32.toInt64) := by
  refine XMetH.of hl rfl rfl (Nat.le_of_ble_eq_true rfl) (fun E g q => by cases q.1) (fun Y O HT hh hQ => ?_)
  show SW Y k9 n9 h 0 [.ref 1000, .int p0, .ref 4500, xx_d] []
  refine sw_aload_n O (xx_dt dd_L_fail 0 rfl) rfl ?_
  refine sw_aload_n O (xx_dt dd_L_fail 1 rfl) rfl ?_
  refine sw_iload_n O (xx_dt dd_L_fail 2 rfl) rfl ?_
  refine xx_wid (k' := 0 + k9) (n' := 0 + n9) (by omega) (by omega) (sw_callVc (hh := hh_L_fail) (as := [.int p0]) (st := [.ref 4500]) (k := 0) (n := 0) O hC ce_X7_fail ml_L_60 iv_X7_fail cl_X7 rfl h0 (xx_dt dd_L_fail 3 rfl) (Nat.le_refl _) rfl rfl (Nat.le_of_ble_eq_true rfl) (fun v h' q _ => ?_) HT (fun E h' q _ => ?_))
  · obtain ⟨q1, rfl⟩ := q
    cases o with
    | inr E => cases q1
    | inl w =>
      cases q1
      show SW Y 0 0 h' 6 [.ref 1000, .int p0, .ref 4500, xx_d] [.int w, .ref 4500]
      refine sw_i2l O (xx_dt dd_L_fail 4 rfl) ?_
      refine sw_put (h2 := xx_up h' 4500 (14, 2, updV F 0 (.long (Int32.toInt64 w)))) O (xx_dt dd_L_fail 5 rfl) cl_X8 fl_L_13 hO (by decide) (by omega) rfl (fun _ => ⟨rfl, rfl⟩) rfl ?_
      refine sw_goto (tgt := 19) O (xx_dt dd_L_fail 6 rfl) (by decide) ?_
      refine sw_iconst (x := 0) O (xx_dt dd_L_fail 13 rfl) (by decide) ?_
      exact sw_iret O (xx_dt dd_L_fail 14 rfl) rfl rfl (by rw [hQ]; exact ⟨rfl, rfl⟩)
  · obtain ⟨q1, rfl⟩ := q
    cases o with
    | inl w => cases q1
    | inr E9 =>
      cases q1
      rcases hE _ rfl with rfl | rfl
      · refine ⟨13, ⟨[], ⟨0, 10, 13, 27⟩, [⟨0, 10, 16, 21⟩], rfl, fun z hz => absurd hz List.not_mem_nil, rfl, by decide, ck_L_27, ex_IOB, rfl⟩, ?_⟩
        refine .inr ⟨3, (xx_dt dd_L_fail 7 rfl), by decide, ?_⟩
        show SW Y 0 0 h' 14 [.ref 1000, .int p0, .ref 4500, xx_d] []
        refine sw_iconst (x := 1) O (xx_dt dd_L_fail 8 rfl) (by decide) ?_
        exact sw_iret O (xx_dt dd_L_fail 9 rfl) rfl rfl (by rw [hQ]; exact ⟨rfl, rfl⟩)
      · refine ⟨16, ⟨[⟨0, 10, 13, 27⟩], ⟨0, 10, 16, 21⟩, [], rfl, fun z hz => by
          simp only [List.mem_cons, List.not_mem_nil, or_false] at hz
          rcases hz with rfl
          · exact ⟨by decide, _, ck_L_27, (.tail _ (.head _))⟩, rfl, by decide, ck_L_21, ex_ISE, rfl⟩, ?_⟩
        refine .inr ⟨3, (xx_dt dd_L_fail 10 rfl), by decide, ?_⟩
        show SW Y 0 0 h' 17 [.ref 1000, .int p0, .ref 4500, xx_d] []
        refine sw_iconst (x := 2) O (xx_dt dd_L_fail 11 rfl) (by decide) ?_
        exact sw_iret O (xx_dt dd_L_fail 12 rfl) rfl rfl (by rw [hQ]; exact ⟨rfl, rfl⟩)
theorem lw_station {l : Launch} {h h2 : XH} (hl : l.stackTraces = false) {d9 k9 n9 : Nat} {p0 p1 : Int32} {o : Int32 ⊕ String} {f0 F : Nat → Value} (hC : XEo l m_X7_station d9 k9 n9 [.ref 1000, .int p0, .int p1] h (xoi o) h2) (h0 : h 1000 = some (13, 12, f0)) (hO : h2 4500 = some (14, 2, F)) (hE : ∀ E, o = .inr E → E = eIOB ∨ E = eIAE ∨ E = eISE) : XMetH l m_L_station hh_L_station (d9 + 1) k9 n9 [.ref 1000, .int p0, .int p1, .ref 4500] h (fun o' g => o' = .inl (some (.int (lw_k [eIOB, eIAE, eISE] o))) ∧ g = lw_g h2 F o Int32.toInt64) := by
  refine XMetH.of hl rfl rfl (Nat.le_of_ble_eq_true rfl) (fun E g q => by cases q.1) (fun Y O HT hh hQ => ?_)
  show SW Y k9 n9 h 0 [.ref 1000, .int p0, .int p1, .ref 4500, xx_d] []
  refine sw_aload_n O (xx_dt dd_L_station 0 rfl) rfl ?_
  refine sw_aload_n O (xx_dt dd_L_station 1 rfl) rfl ?_
  refine sw_iload_n O (xx_dt dd_L_station 2 rfl) rfl ?_
  refine sw_iload_n O (xx_dt dd_L_station 3 rfl) rfl ?_
  refine xx_wid (k' := 0 + k9) (n' := 0 + n9) (by omega) (by omega) (sw_callVc (hh := hh_L_station) (as := [.int p0, .int p1]) (st := [.ref 4500]) (k := 0) (n := 0) O hC ce_X7_station ml_L_63 iv_X7_station cl_X7 rfl h0 (xx_dt dd_L_station 4 rfl) (Nat.le_refl _) rfl rfl (Nat.le_of_ble_eq_true rfl) (fun v h' q _ => ?_) HT (fun E h' q _ => ?_))
  · obtain ⟨q1, rfl⟩ := q
    cases o with
    | inr E => cases q1
    | inl w =>
      cases q1
      show SW Y 0 0 h' 7 [.ref 1000, .int p0, .int p1, .ref 4500, xx_d] [.int w, .ref 4500]
      refine sw_i2l O (xx_dt dd_L_station 5 rfl) ?_
      refine sw_put (h2 := xx_up h' 4500 (14, 2, updV F 0 (.long (Int32.toInt64 w)))) O (xx_dt dd_L_station 6 rfl) cl_X8 fl_L_13 hO (by decide) (by omega) rfl (fun _ => ⟨rfl, rfl⟩) rfl ?_
      refine sw_goto (tgt := 26) O (xx_dt dd_L_station 7 rfl) (by decide) ?_
      refine sw_iconst (x := 0) O (xx_dt dd_L_station 17 rfl) (by decide) ?_
      exact sw_iret O (xx_dt dd_L_station 18 rfl) rfl rfl (by rw [hQ]; exact ⟨rfl, rfl⟩)
  · obtain ⟨q1, rfl⟩ := q
    cases o with
    | inl w => cases q1
    | inr E9 =>
      cases q1
      rcases hE _ rfl with rfl | rfl | rfl
      · refine ⟨14, ⟨[], ⟨0, 11, 14, 27⟩, [⟨0, 11, 18, 19⟩, ⟨0, 11, 22, 21⟩], rfl, fun z hz => absurd hz List.not_mem_nil, rfl, by decide, ck_L_27, ex_IOB, rfl⟩, ?_⟩
        refine .inl ⟨4, (xx_dt dd_L_station 8 rfl), by decide, ?_⟩
        show SW Y 0 0 h' 16 [.ref 1000, .int p0, .int p1, .ref 4500, xx_d] []
        refine sw_iconst (x := 1) O (xx_dt dd_L_station 9 rfl) (by decide) ?_
        exact sw_iret O (xx_dt dd_L_station 10 rfl) rfl rfl (by rw [hQ]; exact ⟨rfl, rfl⟩)
      · refine ⟨18, ⟨[⟨0, 11, 14, 27⟩], ⟨0, 11, 18, 19⟩, [⟨0, 11, 22, 21⟩], rfl, fun z hz => by
          simp only [List.mem_cons, List.not_mem_nil, or_false] at hz
          rcases hz with rfl
          · exact ⟨by decide, _, ck_L_27, (.head _)⟩, rfl, by decide, ck_L_19, ex_IAE, rfl⟩, ?_⟩
        refine .inl ⟨4, (xx_dt dd_L_station 11 rfl), by decide, ?_⟩
        show SW Y 0 0 h' 20 [.ref 1000, .int p0, .int p1, .ref 4500, xx_d] []
        refine sw_iconst (x := 2) O (xx_dt dd_L_station 12 rfl) (by decide) ?_
        exact sw_iret O (xx_dt dd_L_station 13 rfl) rfl rfl (by rw [hQ]; exact ⟨rfl, rfl⟩)
      · refine ⟨22, ⟨[⟨0, 11, 14, 27⟩, ⟨0, 11, 18, 19⟩], ⟨0, 11, 22, 21⟩, [], rfl, fun z hz => by
          simp only [List.mem_cons, List.not_mem_nil, or_false] at hz
          rcases hz with rfl | rfl
          · exact ⟨by decide, _, ck_L_27, (.tail _ (.head _))⟩
          · exact ⟨by decide, _, ck_L_19, (.tail _ (.tail _ (.head _)))⟩, rfl, by decide, ck_L_21, ex_ISE, rfl⟩, ?_⟩
        refine .inl ⟨4, (xx_dt dd_L_station 14 rfl), by decide, ?_⟩
        show SW Y 0 0 h' 24 [.ref 1000, .int p0, .int p1, .ref 4500, xx_d] []
        refine sw_iconst (x := 3) O (xx_dt dd_L_station 15 rfl) (by decide) ?_
        exact sw_iret O (xx_dt dd_L_station 16 rfl) rfl rfl (by rw [hQ]; exact ⟨rfl, rfl⟩)
theorem lw_ask {l : Launch} {h h2 : XH} (hl : l.stackTraces = false) {d9 k9 n9 : Nat} {p0 p1 : Int32} {o : Int32 ⊕ String} {f0 F : Nat → Value} (hC : XEo l m_X7_ask d9 k9 n9 [.ref 1000, .int p0, .int p1] h (xoi o) h2) (h0 : h 1000 = some (13, 12, f0)) (hO : h2 4500 = some (14, 2, F)) (hE : ∀ E, o = .inr E → E = eIOB ∨ E = eIAE) : XMetH l m_L_ask hh_L_ask (d9 + 1) k9 n9 [.ref 1000, .int p0, .int p1, .ref 4500] h (fun o' g => o' = .inl (some (.int (lw_k [eIOB, eIAE] o))) ∧ g = lw_g h2 F o Int32.toInt64) := by
  refine XMetH.of hl rfl rfl (Nat.le_of_ble_eq_true rfl) (fun E g q => by cases q.1) (fun Y O HT hh hQ => ?_)
  show SW Y k9 n9 h 0 [.ref 1000, .int p0, .int p1, .ref 4500, xx_d] []
  refine sw_aload_n O (xx_dt dd_L_ask 0 rfl) rfl ?_
  refine sw_aload_n O (xx_dt dd_L_ask 1 rfl) rfl ?_
  refine sw_iload_n O (xx_dt dd_L_ask 2 rfl) rfl ?_
  refine sw_iload_n O (xx_dt dd_L_ask 3 rfl) rfl ?_
  refine xx_wid (k' := 0 + k9) (n' := 0 + n9) (by omega) (by omega) (sw_callVc (hh := hh_L_ask) (as := [.int p0, .int p1]) (st := [.ref 4500]) (k := 0) (n := 0) O hC ce_X7_ask ml_L_66 iv_X7_ask cl_X7 rfl h0 (xx_dt dd_L_ask 4 rfl) (Nat.le_refl _) rfl rfl (Nat.le_of_ble_eq_true rfl) (fun v h' q _ => ?_) HT (fun E h' q _ => ?_))
  · obtain ⟨q1, rfl⟩ := q
    cases o with
    | inr E => cases q1
    | inl w =>
      cases q1
      show SW Y 0 0 h' 7 [.ref 1000, .int p0, .int p1, .ref 4500, xx_d] [.int w, .ref 4500]
      refine sw_i2l O (xx_dt dd_L_ask 5 rfl) ?_
      refine sw_put (h2 := xx_up h' 4500 (14, 2, updV F 0 (.long (Int32.toInt64 w)))) O (xx_dt dd_L_ask 6 rfl) cl_X8 fl_L_13 hO (by decide) (by omega) rfl (fun _ => ⟨rfl, rfl⟩) rfl ?_
      refine sw_goto (tgt := 22) O (xx_dt dd_L_ask 7 rfl) (by decide) ?_
      refine sw_iconst (x := 0) O (xx_dt dd_L_ask 14 rfl) (by decide) ?_
      exact sw_iret O (xx_dt dd_L_ask 15 rfl) rfl rfl (by rw [hQ]; exact ⟨rfl, rfl⟩)
  · obtain ⟨q1, rfl⟩ := q
    cases o with
    | inl w => cases q1
    | inr E9 =>
      cases q1
      rcases hE _ rfl with rfl | rfl
      · refine ⟨14, ⟨[], ⟨0, 11, 14, 27⟩, [⟨0, 11, 18, 19⟩], rfl, fun z hz => absurd hz List.not_mem_nil, rfl, by decide, ck_L_27, ex_IOB, rfl⟩, ?_⟩
        refine .inl ⟨4, (xx_dt dd_L_ask 8 rfl), by decide, ?_⟩
        show SW Y 0 0 h' 16 [.ref 1000, .int p0, .int p1, .ref 4500, xx_d] []
        refine sw_iconst (x := 1) O (xx_dt dd_L_ask 9 rfl) (by decide) ?_
        exact sw_iret O (xx_dt dd_L_ask 10 rfl) rfl rfl (by rw [hQ]; exact ⟨rfl, rfl⟩)
      · refine ⟨18, ⟨[⟨0, 11, 14, 27⟩], ⟨0, 11, 18, 19⟩, [], rfl, fun z hz => by
          simp only [List.mem_cons, List.not_mem_nil, or_false] at hz
          rcases hz with rfl
          · exact ⟨by decide, _, ck_L_27, (.head _)⟩, rfl, by decide, ck_L_19, ex_IAE, rfl⟩, ?_⟩
        refine .inl ⟨4, (xx_dt dd_L_ask 11 rfl), by decide, ?_⟩
        show SW Y 0 0 h' 20 [.ref 1000, .int p0, .int p1, .ref 4500, xx_d] []
        refine sw_iconst (x := 2) O (xx_dt dd_L_ask 12 rfl) (by decide) ?_
        exact sw_iret O (xx_dt dd_L_ask 13 rfl) rfl rfl (by rw [hQ]; exact ⟨rfl, rfl⟩)
theorem lw_packs {l : Launch} {h h2 : XH} (hl : l.stackTraces = false) {d9 k9 n9 : Nat} {p0 p1 : Int32} {o : Int32 ⊕ String} {f0 F : Nat → Value} (hC : XEo l m_X7_packs d9 k9 n9 [.ref 1000, .int p0, .int p1] h (xoi o) h2) (h0 : h 1000 = some (13, 12, f0)) (hO : h2 4500 = some (14, 2, F)) (hE : ∀ E, o = .inr E → E = eIAE) : XMetH l m_L_packs hh_L_packs (d9 + 1) k9 n9 [.ref 1000, .int p0, .int p1, .ref 4500] h (fun o' g => o' = .inl (some (.int (lw_k [eIAE] o))) ∧ g = lw_g h2 F o (fun v => lw_B v)) := by
  refine XMetH.of hl rfl rfl (Nat.le_of_ble_eq_true rfl) (fun E g q => by cases q.1) (fun Y O HT hh hQ => ?_)
  show SW Y k9 n9 h 0 [.ref 1000, .int p0, .int p1, .ref 4500, xx_d] []
  refine sw_aload_n O (xx_dt dd_L_packs 0 rfl) rfl ?_
  refine sw_aload_n O (xx_dt dd_L_packs 1 rfl) rfl ?_
  refine sw_iload_n O (xx_dt dd_L_packs 2 rfl) rfl ?_
  refine sw_iload_n O (xx_dt dd_L_packs 3 rfl) rfl ?_
  refine xx_wid (k' := 0 + k9) (n' := 0 + n9) (by omega) (by omega) (sw_callVc (hh := hh_L_packs) (as := [.int p0, .int p1]) (st := [.ref 4500]) (k := 0) (n := 0) O hC ce_X7_packs ml_L_69 iv_X7_packs cl_X7 rfl h0 (xx_dt dd_L_packs 4 rfl) (Nat.le_refl _) rfl rfl (Nat.le_of_ble_eq_true rfl) (fun v h' q _ => ?_) HT (fun E h' q _ => ?_))
  · obtain ⟨q1, rfl⟩ := q
    cases o with
    | inr E => cases q1
    | inl w =>
      cases q1
      show SW Y 0 0 h' 7 [.ref 1000, .int p0, .int p1, .ref 4500, xx_d] [.int w, .ref 4500]
      refine sw_if_eq (tgt := 14) O (xx_dt dd_L_packs 5 rfl) (by decide) (fun q9 => ?_) (fun q9 => ?_)
      · refine sw_lconst O (xx_dt dd_L_packs 8 rfl) ?_
        refine sw_put (h2 := xx_up h' 4500 (14, 2, updV F 0 (.long (Int64.ofNat (0 : Fin 2))))) O (xx_dt dd_L_packs 9 rfl) cl_X8 fl_L_13 hO (by decide) (by omega) rfl (fun _ => ⟨rfl, rfl⟩) rfl ?_
        refine sw_goto (tgt := 25) O (xx_dt dd_L_packs 10 rfl) (by decide) ?_
        refine sw_iconst (x := 0) O (xx_dt dd_L_packs 14 rfl) (by decide) ?_
        exact sw_iret O (xx_dt dd_L_packs 15 rfl) rfl rfl (by rw [hQ]; exact ⟨rfl, by show _ = xx_up h' 4500 (14, 2, updV F 0 (.long (lw_B w))); unfold lw_B; rw [if_pos q9]⟩)
      · refine sw_lconst O (xx_dt dd_L_packs 6 rfl) ?_
        refine sw_goto (tgt := 15) O (xx_dt dd_L_packs 7 rfl) (by decide) ?_
        refine sw_put (h2 := xx_up h' 4500 (14, 2, updV F 0 (.long (Int64.ofNat (1 : Fin 2))))) O (xx_dt dd_L_packs 9 rfl) cl_X8 fl_L_13 hO (by decide) (by omega) rfl (fun _ => ⟨rfl, rfl⟩) rfl ?_
        refine sw_goto (tgt := 25) O (xx_dt dd_L_packs 10 rfl) (by decide) ?_
        refine sw_iconst (x := 0) O (xx_dt dd_L_packs 14 rfl) (by decide) ?_
        exact sw_iret O (xx_dt dd_L_packs 15 rfl) rfl rfl (by rw [hQ]; exact ⟨rfl, by show _ = xx_up h' 4500 (14, 2, updV F 0 (.long (lw_B w))); unfold lw_B; rw [if_neg q9]⟩)
  · obtain ⟨q1, rfl⟩ := q
    cases o with
    | inl w => cases q1
    | inr E9 =>
      cases q1
      obtain rfl := hE _ rfl
      refine ⟨21, ⟨[], ⟨0, 18, 21, 19⟩, [], rfl, fun z hz => absurd hz List.not_mem_nil, rfl, by decide, ck_L_19, ex_IAE, rfl⟩, ?_⟩
      refine .inl ⟨4, (xx_dt dd_L_packs 11 rfl), by decide, ?_⟩
      show SW Y 0 0 h' 23 [.ref 1000, .int p0, .int p1, .ref 4500, xx_d] []
      refine sw_iconst (x := 1) O (xx_dt dd_L_packs 12 rfl) (by decide) ?_
      exact sw_iret O (xx_dt dd_L_packs 13 rfl) rfl rfl (by rw [hQ]; exact ⟨rfl, rfl⟩)
theorem lw_channel {l : Launch} {h h2 : XH} (hl : l.stackTraces = false) {d9 k9 n9 : Nat} {p0 p1 p2 : Int32} {o : Int32 ⊕ String} {f0 F : Nat → Value} (hC : XEo l m_X7_channel d9 k9 n9 [.ref 1000, .int p0, .int p1, .int p2] h (xoi o) h2) (h0 : h 1000 = some (13, 12, f0)) (hO : h2 4500 = some (14, 2, F)) (hE : ∀ E, o = .inr E → E = eIOB ∨ E = eIAE) : XMetH l m_L_channel hh_L_channel (d9 + 1) k9 n9 [.ref 1000, .int p0, .int p1, .int p2, .ref 4500] h (fun o' g => o' = .inl (some (.int (lw_k [eIOB, eIAE] o))) ∧ g = lw_g h2 F o Int32.toInt64) := by
  refine XMetH.of hl rfl rfl (Nat.le_of_ble_eq_true rfl) (fun E g q => by cases q.1) (fun Y O HT hh hQ => ?_)
  show SW Y k9 n9 h 0 [.ref 1000, .int p0, .int p1, .int p2, .ref 4500, xx_d] []
  refine sw_aload O (xx_dt dd_L_channel 0 rfl) rfl ?_
  refine sw_aload_n O (xx_dt dd_L_channel 1 rfl) rfl ?_
  refine sw_iload_n O (xx_dt dd_L_channel 2 rfl) rfl ?_
  refine sw_iload_n O (xx_dt dd_L_channel 3 rfl) rfl ?_
  refine sw_iload_n O (xx_dt dd_L_channel 4 rfl) rfl ?_
  refine xx_wid (k' := 0 + k9) (n' := 0 + n9) (by omega) (by omega) (sw_callVc (hh := hh_L_channel) (as := [.int p0, .int p1, .int p2]) (st := [.ref 4500]) (k := 0) (n := 0) O hC ce_X7_channel ml_L_73 iv_X7_channel cl_X7 rfl h0 (xx_dt dd_L_channel 5 rfl) (Nat.le_refl _) rfl rfl (Nat.le_of_ble_eq_true rfl) (fun v h' q _ => ?_) HT (fun E h' q _ => ?_))
  · obtain ⟨q1, rfl⟩ := q
    cases o with
    | inr E => cases q1
    | inl w =>
      cases q1
      show SW Y 0 0 h' 9 [.ref 1000, .int p0, .int p1, .int p2, .ref 4500, xx_d] [.int w, .ref 4500]
      refine sw_i2l O (xx_dt dd_L_channel 6 rfl) ?_
      refine sw_put (h2 := xx_up h' 4500 (14, 2, updV F 0 (.long (Int32.toInt64 w)))) O (xx_dt dd_L_channel 7 rfl) cl_X8 fl_L_13 hO (by decide) (by omega) rfl (fun _ => ⟨rfl, rfl⟩) rfl ?_
      refine sw_goto (tgt := 24) O (xx_dt dd_L_channel 8 rfl) (by decide) ?_
      refine sw_iconst (x := 0) O (xx_dt dd_L_channel 15 rfl) (by decide) ?_
      exact sw_iret O (xx_dt dd_L_channel 16 rfl) rfl rfl (by rw [hQ]; exact ⟨rfl, rfl⟩)
  · obtain ⟨q1, rfl⟩ := q
    cases o with
    | inl w => cases q1
    | inr E9 =>
      cases q1
      rcases hE _ rfl with rfl | rfl
      · refine ⟨16, ⟨[], ⟨0, 13, 16, 27⟩, [⟨0, 13, 20, 19⟩], rfl, fun z hz => absurd hz List.not_mem_nil, rfl, by decide, ck_L_27, ex_IOB, rfl⟩, ?_⟩
        refine .inl ⟨5, (xx_dt dd_L_channel 9 rfl), by decide, ?_⟩
        show SW Y 0 0 h' 18 [.ref 1000, .int p0, .int p1, .int p2, .ref 4500, xx_d] []
        refine sw_iconst (x := 1) O (xx_dt dd_L_channel 10 rfl) (by decide) ?_
        exact sw_iret O (xx_dt dd_L_channel 11 rfl) rfl rfl (by rw [hQ]; exact ⟨rfl, rfl⟩)
      · refine ⟨20, ⟨[⟨0, 13, 16, 27⟩], ⟨0, 13, 20, 19⟩, [], rfl, fun z hz => by
          simp only [List.mem_cons, List.not_mem_nil, or_false] at hz
          rcases hz with rfl
          · exact ⟨by decide, _, ck_L_27, (.head _)⟩, rfl, by decide, ck_L_19, ex_IAE, rfl⟩, ?_⟩
        refine .inl ⟨5, (xx_dt dd_L_channel 12 rfl), by decide, ?_⟩
        show SW Y 0 0 h' 22 [.ref 1000, .int p0, .int p1, .int p2, .ref 4500, xx_d] []
        refine sw_iconst (x := 2) O (xx_dt dd_L_channel 13 rfl) (by decide) ?_
        exact sw_iret O (xx_dt dd_L_channel 14 rfl) rfl rfl (by rw [hQ]; exact ⟨rfl, rfl⟩)
theorem lw_clear {l : Launch} {h h2 : XH} (hl : l.stackTraces = false) {d9 k9 n9 : Nat} {p0 : Int32} {o : Int32 ⊕ String} {f0 F : Nat → Value} (hC : XEo l m_X7_clear d9 k9 n9 [.ref 1000, .int p0] h (xoi o) h2) (h0 : h 1000 = some (13, 12, f0)) (hO : h2 4500 = some (14, 2, F)) (hE : ∀ E, o = .inr E → E = eIAE) : XMetH l m_L_clear hh_L_clear (d9 + 1) k9 n9 [.ref 1000, .int p0, .ref 4500] h (fun o' g => o' = .inl (some (.int (lw_k [eIAE] o))) ∧ g = lw_g h2 F o Int32.toInt64) := by
  refine XMetH.of hl rfl rfl (Nat.le_of_ble_eq_true rfl) (fun E g q => by cases q.1) (fun Y O HT hh hQ => ?_)
  show SW Y k9 n9 h 0 [.ref 1000, .int p0, .ref 4500, xx_d] []
  refine sw_aload_n O (xx_dt dd_L_clear 0 rfl) rfl ?_
  refine sw_aload_n O (xx_dt dd_L_clear 1 rfl) rfl ?_
  refine sw_iload_n O (xx_dt dd_L_clear 2 rfl) rfl ?_
  refine xx_wid (k' := 0 + k9) (n' := 0 + n9) (by omega) (by omega) (sw_callVc (hh := hh_L_clear) (as := [.int p0]) (st := [.ref 4500]) (k := 0) (n := 0) O hC ce_X7_clear ml_L_76 iv_X7_clear cl_X7 rfl h0 (xx_dt dd_L_clear 3 rfl) (Nat.le_refl _) rfl rfl (Nat.le_of_ble_eq_true rfl) (fun v h' q _ => ?_) HT (fun E h' q _ => ?_))
  · obtain ⟨q1, rfl⟩ := q
    cases o with
    | inr E => cases q1
    | inl w =>
      cases q1
      show SW Y 0 0 h' 6 [.ref 1000, .int p0, .ref 4500, xx_d] [.int w, .ref 4500]
      refine sw_i2l O (xx_dt dd_L_clear 4 rfl) ?_
      refine sw_put (h2 := xx_up h' 4500 (14, 2, updV F 0 (.long (Int32.toInt64 w)))) O (xx_dt dd_L_clear 5 rfl) cl_X8 fl_L_13 hO (by decide) (by omega) rfl (fun _ => ⟨rfl, rfl⟩) rfl ?_
      refine sw_goto (tgt := 16) O (xx_dt dd_L_clear 6 rfl) (by decide) ?_
      refine sw_iconst (x := 0) O (xx_dt dd_L_clear 10 rfl) (by decide) ?_
      exact sw_iret O (xx_dt dd_L_clear 11 rfl) rfl rfl (by rw [hQ]; exact ⟨rfl, rfl⟩)
  · obtain ⟨q1, rfl⟩ := q
    cases o with
    | inl w => cases q1
    | inr E9 =>
      cases q1
      obtain rfl := hE _ rfl
      refine ⟨13, ⟨[], ⟨0, 10, 13, 19⟩, [], rfl, fun z hz => absurd hz List.not_mem_nil, rfl, by decide, ck_L_19, ex_IAE, rfl⟩, ?_⟩
      refine .inr ⟨3, (xx_dt dd_L_clear 7 rfl), by decide, ?_⟩
      show SW Y 0 0 h' 14 [.ref 1000, .int p0, .ref 4500, xx_d] []
      refine sw_iconst (x := 1) O (xx_dt dd_L_clear 8 rfl) (by decide) ?_
      exact sw_iret O (xx_dt dd_L_clear 9 rfl) rfl rfl (by rw [hQ]; exact ⟨rfl, rfl⟩)
theorem lw_ofRegion {l : Launch} {h h2 : XH} (hl : l.stackTraces = false) {d9 k9 n9 : Nat} {p0 p1 : Int32} {o : Int32 ⊕ String} {f0 F : Nat → Value} (hC : XEo l m_X7_ofRegion d9 k9 n9 [.ref 1000, .int p0, .int p1] h (xoi o) h2) (h0 : h 1000 = some (13, 12, f0)) (hO : h2 4500 = some (14, 2, F)) (hE : ∀ E, o = .inr E → E = eIOB ∨ E = eIAE) : XMetH l m_L_ofRegion hh_L_ofRegion (d9 + 1) k9 n9 [.ref 1000, .int p0, .int p1, .ref 4500] h (fun o' g => o' = .inl (some (.int (lw_k [eIOB, eIAE] o))) ∧ g = lw_g h2 F o Int32.toInt64) := by
  refine XMetH.of hl rfl rfl (Nat.le_of_ble_eq_true rfl) (fun E g q => by cases q.1) (fun Y O HT hh hQ => ?_)
  show SW Y k9 n9 h 0 [.ref 1000, .int p0, .int p1, .ref 4500, xx_d] []
  refine sw_aload_n O (xx_dt dd_L_ofRegion 0 rfl) rfl ?_
  refine sw_aload_n O (xx_dt dd_L_ofRegion 1 rfl) rfl ?_
  refine sw_iload_n O (xx_dt dd_L_ofRegion 2 rfl) rfl ?_
  refine sw_iload_n O (xx_dt dd_L_ofRegion 3 rfl) rfl ?_
  refine xx_wid (k' := 0 + k9) (n' := 0 + n9) (by omega) (by omega) (sw_callVc (hh := hh_L_ofRegion) (as := [.int p0, .int p1]) (st := [.ref 4500]) (k := 0) (n := 0) O hC ce_X7_ofRegion ml_L_79 iv_X7_ofRegion cl_X7 rfl h0 (xx_dt dd_L_ofRegion 4 rfl) (Nat.le_refl _) rfl rfl (Nat.le_of_ble_eq_true rfl) (fun v h' q _ => ?_) HT (fun E h' q _ => ?_))
  · obtain ⟨q1, rfl⟩ := q
    cases o with
    | inr E => cases q1
    | inl w =>
      cases q1
      show SW Y 0 0 h' 7 [.ref 1000, .int p0, .int p1, .ref 4500, xx_d] [.int w, .ref 4500]
      refine sw_i2l O (xx_dt dd_L_ofRegion 5 rfl) ?_
      refine sw_put (h2 := xx_up h' 4500 (14, 2, updV F 0 (.long (Int32.toInt64 w)))) O (xx_dt dd_L_ofRegion 6 rfl) cl_X8 fl_L_13 hO (by decide) (by omega) rfl (fun _ => ⟨rfl, rfl⟩) rfl ?_
      refine sw_goto (tgt := 22) O (xx_dt dd_L_ofRegion 7 rfl) (by decide) ?_
      refine sw_iconst (x := 0) O (xx_dt dd_L_ofRegion 14 rfl) (by decide) ?_
      exact sw_iret O (xx_dt dd_L_ofRegion 15 rfl) rfl rfl (by rw [hQ]; exact ⟨rfl, rfl⟩)
  · obtain ⟨q1, rfl⟩ := q
    cases o with
    | inl w => cases q1
    | inr E9 =>
      cases q1
      rcases hE _ rfl with rfl | rfl
      · refine ⟨14, ⟨[], ⟨0, 11, 14, 27⟩, [⟨0, 11, 18, 19⟩], rfl, fun z hz => absurd hz List.not_mem_nil, rfl, by decide, ck_L_27, ex_IOB, rfl⟩, ?_⟩
        refine .inl ⟨4, (xx_dt dd_L_ofRegion 8 rfl), by decide, ?_⟩
        show SW Y 0 0 h' 16 [.ref 1000, .int p0, .int p1, .ref 4500, xx_d] []
        refine sw_iconst (x := 1) O (xx_dt dd_L_ofRegion 9 rfl) (by decide) ?_
        exact sw_iret O (xx_dt dd_L_ofRegion 10 rfl) rfl rfl (by rw [hQ]; exact ⟨rfl, rfl⟩)
      · refine ⟨18, ⟨[⟨0, 11, 14, 27⟩], ⟨0, 11, 18, 19⟩, [], rfl, fun z hz => by
          simp only [List.mem_cons, List.not_mem_nil, or_false] at hz
          rcases hz with rfl
          · exact ⟨by decide, _, ck_L_27, (.head _)⟩, rfl, by decide, ck_L_19, ex_IAE, rfl⟩, ?_⟩
        refine .inl ⟨4, (xx_dt dd_L_ofRegion 11 rfl), by decide, ?_⟩
        show SW Y 0 0 h' 20 [.ref 1000, .int p0, .int p1, .ref 4500, xx_d] []
        refine sw_iconst (x := 2) O (xx_dt dd_L_ofRegion 12 rfl) (by decide) ?_
        exact sw_iret O (xx_dt dd_L_ofRegion 13 rfl) rfl rfl (by rw [hQ]; exact ⟨rfl, rfl⟩)
theorem lw_ofBidder {l : Launch} {h h2 : XH} (hl : l.stackTraces = false) {d9 k9 n9 : Nat} {p0 p1 : Int32} {o : Int32 ⊕ String} {f0 F : Nat → Value} (hC : XEo l m_X7_ofBidder d9 k9 n9 [.ref 1000, .int p0, .int p1] h (xoi o) h2) (h0 : h 1000 = some (13, 12, f0)) (hO : h2 4500 = some (14, 2, F)) (hE : ∀ E, o = .inr E → E = eIOB ∨ E = eIAE) : XMetH l m_L_ofBidder hh_L_ofBidder (d9 + 1) k9 n9 [.ref 1000, .int p0, .int p1, .ref 4500] h (fun o' g => o' = .inl (some (.int (lw_k [eIOB, eIAE] o))) ∧ g = lw_g h2 F o Int32.toInt64) := by
  refine XMetH.of hl rfl rfl (Nat.le_of_ble_eq_true rfl) (fun E g q => by cases q.1) (fun Y O HT hh hQ => ?_)
  show SW Y k9 n9 h 0 [.ref 1000, .int p0, .int p1, .ref 4500, xx_d] []
  refine sw_aload_n O (xx_dt dd_L_ofBidder 0 rfl) rfl ?_
  refine sw_aload_n O (xx_dt dd_L_ofBidder 1 rfl) rfl ?_
  refine sw_iload_n O (xx_dt dd_L_ofBidder 2 rfl) rfl ?_
  refine sw_iload_n O (xx_dt dd_L_ofBidder 3 rfl) rfl ?_
  refine xx_wid (k' := 0 + k9) (n' := 0 + n9) (by omega) (by omega) (sw_callVc (hh := hh_L_ofBidder) (as := [.int p0, .int p1]) (st := [.ref 4500]) (k := 0) (n := 0) O hC ce_X7_ofBidder ml_L_82 iv_X7_ofBidder cl_X7 rfl h0 (xx_dt dd_L_ofBidder 4 rfl) (Nat.le_refl _) rfl rfl (Nat.le_of_ble_eq_true rfl) (fun v h' q _ => ?_) HT (fun E h' q _ => ?_))
  · obtain ⟨q1, rfl⟩ := q
    cases o with
    | inr E => cases q1
    | inl w =>
      cases q1
      show SW Y 0 0 h' 7 [.ref 1000, .int p0, .int p1, .ref 4500, xx_d] [.int w, .ref 4500]
      refine sw_i2l O (xx_dt dd_L_ofBidder 5 rfl) ?_
      refine sw_put (h2 := xx_up h' 4500 (14, 2, updV F 0 (.long (Int32.toInt64 w)))) O (xx_dt dd_L_ofBidder 6 rfl) cl_X8 fl_L_13 hO (by decide) (by omega) rfl (fun _ => ⟨rfl, rfl⟩) rfl ?_
      refine sw_goto (tgt := 22) O (xx_dt dd_L_ofBidder 7 rfl) (by decide) ?_
      refine sw_iconst (x := 0) O (xx_dt dd_L_ofBidder 14 rfl) (by decide) ?_
      exact sw_iret O (xx_dt dd_L_ofBidder 15 rfl) rfl rfl (by rw [hQ]; exact ⟨rfl, rfl⟩)
  · obtain ⟨q1, rfl⟩ := q
    cases o with
    | inl w => cases q1
    | inr E9 =>
      cases q1
      rcases hE _ rfl with rfl | rfl
      · refine ⟨14, ⟨[], ⟨0, 11, 14, 27⟩, [⟨0, 11, 18, 19⟩], rfl, fun z hz => absurd hz List.not_mem_nil, rfl, by decide, ck_L_27, ex_IOB, rfl⟩, ?_⟩
        refine .inl ⟨4, (xx_dt dd_L_ofBidder 8 rfl), by decide, ?_⟩
        show SW Y 0 0 h' 16 [.ref 1000, .int p0, .int p1, .ref 4500, xx_d] []
        refine sw_iconst (x := 1) O (xx_dt dd_L_ofBidder 9 rfl) (by decide) ?_
        exact sw_iret O (xx_dt dd_L_ofBidder 10 rfl) rfl rfl (by rw [hQ]; exact ⟨rfl, rfl⟩)
      · refine ⟨18, ⟨[⟨0, 11, 14, 27⟩], ⟨0, 11, 18, 19⟩, [], rfl, fun z hz => by
          simp only [List.mem_cons, List.not_mem_nil, or_false] at hz
          rcases hz with rfl
          · exact ⟨by decide, _, ck_L_27, (.head _)⟩, rfl, by decide, ck_L_19, ex_IAE, rfl⟩, ?_⟩
        refine .inl ⟨4, (xx_dt dd_L_ofBidder 11 rfl), by decide, ?_⟩
        show SW Y 0 0 h' 20 [.ref 1000, .int p0, .int p1, .ref 4500, xx_d] []
        refine sw_iconst (x := 2) O (xx_dt dd_L_ofBidder 12 rfl) (by decide) ?_
        exact sw_iret O (xx_dt dd_L_ofBidder 13 rfl) rfl rfl (by rw [hQ]; exact ⟨rfl, rfl⟩)
theorem lw_wants {l : Launch} {h h2 : XH} (hl : l.stackTraces = false) {d9 k9 n9 : Nat} {p0 p1 p2 : Int32} {o : Int32 ⊕ String} {f0 F : Nat → Value} (hC : XEo l m_X7_wants d9 k9 n9 [.ref 1000, .int p0, .int p1, .int p2] h (xoi o) h2) (h0 : h 1000 = some (13, 12, f0)) (hO : h2 4500 = some (14, 2, F)) (hE : ∀ E, o = .inr E → E = eIOB) : XMetH l m_L_wants hh_L_wants (d9 + 1) k9 n9 [.ref 1000, .int p0, .int p1, .int p2, .ref 4500] h (fun o' g => o' = .inl (some (.int (lw_k [eIOB] o))) ∧ g = lw_g h2 F o Int32.toInt64) := by
  refine XMetH.of hl rfl rfl (Nat.le_of_ble_eq_true rfl) (fun E g q => by cases q.1) (fun Y O HT hh hQ => ?_)
  show SW Y k9 n9 h 0 [.ref 1000, .int p0, .int p1, .int p2, .ref 4500, xx_d] []
  refine sw_aload O (xx_dt dd_L_wants 0 rfl) rfl ?_
  refine sw_aload_n O (xx_dt dd_L_wants 1 rfl) rfl ?_
  refine sw_iload_n O (xx_dt dd_L_wants 2 rfl) rfl ?_
  refine sw_iload_n O (xx_dt dd_L_wants 3 rfl) rfl ?_
  refine sw_iload_n O (xx_dt dd_L_wants 4 rfl) rfl ?_
  refine xx_wid (k' := 0 + k9) (n' := 0 + n9) (by omega) (by omega) (sw_callVc (hh := hh_L_wants) (as := [.int p0, .int p1, .int p2]) (st := [.ref 4500]) (k := 0) (n := 0) O hC ce_X7_wants ml_L_85 iv_X7_wants cl_X7 rfl h0 (xx_dt dd_L_wants 5 rfl) (Nat.le_refl _) rfl rfl (Nat.le_of_ble_eq_true rfl) (fun v h' q _ => ?_) HT (fun E h' q _ => ?_))
  · obtain ⟨q1, rfl⟩ := q
    cases o with
    | inr E => cases q1
    | inl w =>
      cases q1
      show SW Y 0 0 h' 9 [.ref 1000, .int p0, .int p1, .int p2, .ref 4500, xx_d] [.int w, .ref 4500]
      refine sw_i2l O (xx_dt dd_L_wants 6 rfl) ?_
      refine sw_put (h2 := xx_up h' 4500 (14, 2, updV F 0 (.long (Int32.toInt64 w)))) O (xx_dt dd_L_wants 7 rfl) cl_X8 fl_L_13 hO (by decide) (by omega) rfl (fun _ => ⟨rfl, rfl⟩) rfl ?_
      refine sw_goto (tgt := 20) O (xx_dt dd_L_wants 8 rfl) (by decide) ?_
      refine sw_iconst (x := 0) O (xx_dt dd_L_wants 12 rfl) (by decide) ?_
      exact sw_iret O (xx_dt dd_L_wants 13 rfl) rfl rfl (by rw [hQ]; exact ⟨rfl, rfl⟩)
  · obtain ⟨q1, rfl⟩ := q
    cases o with
    | inl w => cases q1
    | inr E9 =>
      cases q1
      obtain rfl := hE _ rfl
      refine ⟨16, ⟨[], ⟨0, 13, 16, 27⟩, [], rfl, fun z hz => absurd hz List.not_mem_nil, rfl, by decide, ck_L_27, ex_IOB, rfl⟩, ?_⟩
      refine .inl ⟨5, (xx_dt dd_L_wants 9 rfl), by decide, ?_⟩
      show SW Y 0 0 h' 18 [.ref 1000, .int p0, .int p1, .int p2, .ref 4500, xx_d] []
      refine sw_iconst (x := 1) O (xx_dt dd_L_wants 10 rfl) (by decide) ?_
      exact sw_iret O (xx_dt dd_L_wants 11 rfl) rfl rfl (by rw [hQ]; exact ⟨rfl, rfl⟩)
theorem lw_priceIn {l : Launch} {h h2 : XH} (hl : l.stackTraces = false) {d9 k9 n9 : Nat} {p0 p1 : Int32} {o : Int32 ⊕ String} {f0 F : Nat → Value} (hC : XEo l m_X7_priceIn d9 k9 n9 [.ref 1000, .int p0, .int p1] h (xoi o) h2) (h0 : h 1000 = some (13, 12, f0)) (hO : h2 4500 = some (14, 2, F)) (hE : ∀ E, o = .inr E → E = eIOB) : XMetH l m_L_priceIn hh_L_priceIn (d9 + 1) k9 n9 [.ref 1000, .int p0, .int p1, .ref 4500] h (fun o' g => o' = .inl (some (.int (lw_k [eIOB] o))) ∧ g = lw_g h2 F o Int32.toInt64) := by
  refine XMetH.of hl rfl rfl (Nat.le_of_ble_eq_true rfl) (fun E g q => by cases q.1) (fun Y O HT hh hQ => ?_)
  show SW Y k9 n9 h 0 [.ref 1000, .int p0, .int p1, .ref 4500, xx_d] []
  refine sw_aload_n O (xx_dt dd_L_priceIn 0 rfl) rfl ?_
  refine sw_aload_n O (xx_dt dd_L_priceIn 1 rfl) rfl ?_
  refine sw_iload_n O (xx_dt dd_L_priceIn 2 rfl) rfl ?_
  refine sw_iload_n O (xx_dt dd_L_priceIn 3 rfl) rfl ?_
  refine xx_wid (k' := 0 + k9) (n' := 0 + n9) (by omega) (by omega) (sw_callVc (hh := hh_L_priceIn) (as := [.int p0, .int p1]) (st := [.ref 4500]) (k := 0) (n := 0) O hC ce_X7_priceIn ml_L_89 iv_X7_priceIn cl_X7 rfl h0 (xx_dt dd_L_priceIn 4 rfl) (Nat.le_refl _) rfl rfl (Nat.le_of_ble_eq_true rfl) (fun v h' q _ => ?_) HT (fun E h' q _ => ?_))
  · obtain ⟨q1, rfl⟩ := q
    cases o with
    | inr E => cases q1
    | inl w =>
      cases q1
      show SW Y 0 0 h' 7 [.ref 1000, .int p0, .int p1, .ref 4500, xx_d] [.int w, .ref 4500]
      refine sw_i2l O (xx_dt dd_L_priceIn 5 rfl) ?_
      refine sw_put (h2 := xx_up h' 4500 (14, 2, updV F 0 (.long (Int32.toInt64 w)))) O (xx_dt dd_L_priceIn 6 rfl) cl_X8 fl_L_13 hO (by decide) (by omega) rfl (fun _ => ⟨rfl, rfl⟩) rfl ?_
      refine sw_goto (tgt := 18) O (xx_dt dd_L_priceIn 7 rfl) (by decide) ?_
      refine sw_iconst (x := 0) O (xx_dt dd_L_priceIn 11 rfl) (by decide) ?_
      exact sw_iret O (xx_dt dd_L_priceIn 12 rfl) rfl rfl (by rw [hQ]; exact ⟨rfl, rfl⟩)
  · obtain ⟨q1, rfl⟩ := q
    cases o with
    | inl w => cases q1
    | inr E9 =>
      cases q1
      obtain rfl := hE _ rfl
      refine ⟨14, ⟨[], ⟨0, 11, 14, 27⟩, [], rfl, fun z hz => absurd hz List.not_mem_nil, rfl, by decide, ck_L_27, ex_IOB, rfl⟩, ?_⟩
      refine .inl ⟨4, (xx_dt dd_L_priceIn 8 rfl), by decide, ?_⟩
      show SW Y 0 0 h' 16 [.ref 1000, .int p0, .int p1, .ref 4500, xx_d] []
      refine sw_iconst (x := 1) O (xx_dt dd_L_priceIn 9 rfl) (by decide) ?_
      exact sw_iret O (xx_dt dd_L_priceIn 10 rfl) rfl rfl (by rw [hQ]; exact ⟨rfl, rfl⟩)
theorem lw_codeIn {l : Launch} {h h2 : XH} (hl : l.stackTraces = false) {d9 k9 n9 : Nat} {p0 p1 p2 : Int32} {o : Int32 ⊕ String} {f0 F : Nat → Value} (hC : XEo l m_X7_codeIn d9 k9 n9 [.ref 1000, .int p0, .int p1, .int p2] h (xoi o) h2) (h0 : h 1000 = some (13, 12, f0)) (hO : h2 4500 = some (14, 2, F)) (hE : ∀ E, o = .inr E → E = eIOB) : XMetH l m_L_codeIn hh_L_codeIn (d9 + 1) k9 n9 [.ref 1000, .int p0, .int p1, .int p2, .ref 4500] h (fun o' g => o' = .inl (some (.int (lw_k [eIOB] o))) ∧ g = lw_g h2 F o Int32.toInt64) := by
  refine XMetH.of hl rfl rfl (Nat.le_of_ble_eq_true rfl) (fun E g q => by cases q.1) (fun Y O HT hh hQ => ?_)
  show SW Y k9 n9 h 0 [.ref 1000, .int p0, .int p1, .int p2, .ref 4500, xx_d] []
  refine sw_aload O (xx_dt dd_L_codeIn 0 rfl) rfl ?_
  refine sw_aload_n O (xx_dt dd_L_codeIn 1 rfl) rfl ?_
  refine sw_iload_n O (xx_dt dd_L_codeIn 2 rfl) rfl ?_
  refine sw_iload_n O (xx_dt dd_L_codeIn 3 rfl) rfl ?_
  refine sw_iload_n O (xx_dt dd_L_codeIn 4 rfl) rfl ?_
  refine xx_wid (k' := 0 + k9) (n' := 0 + n9) (by omega) (by omega) (sw_callVc (hh := hh_L_codeIn) (as := [.int p0, .int p1, .int p2]) (st := [.ref 4500]) (k := 0) (n := 0) O hC ce_X7_codeIn ml_L_92 iv_X7_codeIn cl_X7 rfl h0 (xx_dt dd_L_codeIn 5 rfl) (Nat.le_refl _) rfl rfl (Nat.le_of_ble_eq_true rfl) (fun v h' q _ => ?_) HT (fun E h' q _ => ?_))
  · obtain ⟨q1, rfl⟩ := q
    cases o with
    | inr E => cases q1
    | inl w =>
      cases q1
      show SW Y 0 0 h' 9 [.ref 1000, .int p0, .int p1, .int p2, .ref 4500, xx_d] [.int w, .ref 4500]
      refine sw_i2l O (xx_dt dd_L_codeIn 6 rfl) ?_
      refine sw_put (h2 := xx_up h' 4500 (14, 2, updV F 0 (.long (Int32.toInt64 w)))) O (xx_dt dd_L_codeIn 7 rfl) cl_X8 fl_L_13 hO (by decide) (by omega) rfl (fun _ => ⟨rfl, rfl⟩) rfl ?_
      refine sw_goto (tgt := 20) O (xx_dt dd_L_codeIn 8 rfl) (by decide) ?_
      refine sw_iconst (x := 0) O (xx_dt dd_L_codeIn 12 rfl) (by decide) ?_
      exact sw_iret O (xx_dt dd_L_codeIn 13 rfl) rfl rfl (by rw [hQ]; exact ⟨rfl, rfl⟩)
  · obtain ⟨q1, rfl⟩ := q
    cases o with
    | inl w => cases q1
    | inr E9 =>
      cases q1
      obtain rfl := hE _ rfl
      refine ⟨16, ⟨[], ⟨0, 13, 16, 27⟩, [], rfl, fun z hz => absurd hz List.not_mem_nil, rfl, by decide, ck_L_27, ex_IOB, rfl⟩, ?_⟩
      refine .inl ⟨5, (xx_dt dd_L_codeIn 9 rfl), by decide, ?_⟩
      show SW Y 0 0 h' 18 [.ref 1000, .int p0, .int p1, .int p2, .ref 4500, xx_d] []
      refine sw_iconst (x := 1) O (xx_dt dd_L_codeIn 10 rfl) (by decide) ?_
      exact sw_iret O (xx_dt dd_L_codeIn 11 rfl) rfl rfl (by rw [hQ]; exact ⟨rfl, rfl⟩)
theorem lw_ofPackage {l : Launch} {h h2 : XH} (hl : l.stackTraces = false) {d9 k9 n9 : Nat} {p0 p1 p2 : Int32} {o : Int32 ⊕ String} {f0 F : Nat → Value} (hC : XEo l m_X7_ofPackage d9 k9 n9 [.ref 1000, .int p0, .int p1, .int p2] h (xoi o) h2) (h0 : h 1000 = some (13, 12, f0)) (hO : h2 4500 = some (14, 2, F)) (hE : ∀ E, o = .inr E → E = eIOB) : XMetH l m_L_ofPackage hh_L_ofPackage (d9 + 1) k9 n9 [.ref 1000, .int p0, .int p1, .int p2, .ref 4500] h (fun o' g => o' = .inl (some (.int (lw_k [eIOB] o))) ∧ g = lw_g h2 F o Int32.toInt64) := by
  refine XMetH.of hl rfl rfl (Nat.le_of_ble_eq_true rfl) (fun E g q => by cases q.1) (fun Y O HT hh hQ => ?_)
  show SW Y k9 n9 h 0 [.ref 1000, .int p0, .int p1, .int p2, .ref 4500, xx_d] []
  refine sw_aload O (xx_dt dd_L_ofPackage 0 rfl) rfl ?_
  refine sw_aload_n O (xx_dt dd_L_ofPackage 1 rfl) rfl ?_
  refine sw_iload_n O (xx_dt dd_L_ofPackage 2 rfl) rfl ?_
  refine sw_iload_n O (xx_dt dd_L_ofPackage 3 rfl) rfl ?_
  refine sw_iload_n O (xx_dt dd_L_ofPackage 4 rfl) rfl ?_
  refine xx_wid (k' := 0 + k9) (n' := 0 + n9) (by omega) (by omega) (sw_callVc (hh := hh_L_ofPackage) (as := [.int p0, .int p1, .int p2]) (st := [.ref 4500]) (k := 0) (n := 0) O hC ce_X7_ofPackage ml_L_95 iv_X7_ofPackage cl_X7 rfl h0 (xx_dt dd_L_ofPackage 5 rfl) (Nat.le_refl _) rfl rfl (Nat.le_of_ble_eq_true rfl) (fun v h' q _ => ?_) HT (fun E h' q _ => ?_))
  · obtain ⟨q1, rfl⟩ := q
    cases o with
    | inr E => cases q1
    | inl w =>
      cases q1
      show SW Y 0 0 h' 9 [.ref 1000, .int p0, .int p1, .int p2, .ref 4500, xx_d] [.int w, .ref 4500]
      refine sw_i2l O (xx_dt dd_L_ofPackage 6 rfl) ?_
      refine sw_put (h2 := xx_up h' 4500 (14, 2, updV F 0 (.long (Int32.toInt64 w)))) O (xx_dt dd_L_ofPackage 7 rfl) cl_X8 fl_L_13 hO (by decide) (by omega) rfl (fun _ => ⟨rfl, rfl⟩) rfl ?_
      refine sw_goto (tgt := 20) O (xx_dt dd_L_ofPackage 8 rfl) (by decide) ?_
      refine sw_iconst (x := 0) O (xx_dt dd_L_ofPackage 12 rfl) (by decide) ?_
      exact sw_iret O (xx_dt dd_L_ofPackage 13 rfl) rfl rfl (by rw [hQ]; exact ⟨rfl, rfl⟩)
  · obtain ⟨q1, rfl⟩ := q
    cases o with
    | inl w => cases q1
    | inr E9 =>
      cases q1
      obtain rfl := hE _ rfl
      refine ⟨16, ⟨[], ⟨0, 13, 16, 27⟩, [], rfl, fun z hz => absurd hz List.not_mem_nil, rfl, by decide, ck_L_27, ex_IOB, rfl⟩, ?_⟩
      refine .inl ⟨5, (xx_dt dd_L_ofPackage 9 rfl), by decide, ?_⟩
      show SW Y 0 0 h' 18 [.ref 1000, .int p0, .int p1, .int p2, .ref 4500, xx_d] []
      refine sw_iconst (x := 1) O (xx_dt dd_L_ofPackage 10 rfl) (by decide) ?_
      exact sw_iret O (xx_dt dd_L_ofPackage 11 rfl) rfl rfl (by rw [hQ]; exact ⟨rfl, rfl⟩)
theorem lw_wins {l : Launch} {h h2 : XH} (hl : l.stackTraces = false) {d9 k9 n9 : Nat} {p0 : Int32} {o : Int32 ⊕ String} {f0 F : Nat → Value} (hC : XEo l m_X7_wins d9 k9 n9 [.ref 1000, .int p0] h (xoi o) h2) (h0 : h 1000 = some (13, 12, f0)) (hO : h2 4500 = some (14, 2, F)) (hE : ∀ E, o = .inr E → E = eIOB) : XMetH l m_L_wins hh_L_wins (d9 + 1) k9 n9 [.ref 1000, .int p0, .ref 4500] h (fun o' g => o' = .inl (some (.int (lw_k [eIOB] o))) ∧ g = lw_g h2 F o Int32.toInt64) := by
  refine XMetH.of hl rfl rfl (Nat.le_of_ble_eq_true rfl) (fun E g q => by cases q.1) (fun Y O HT hh hQ => ?_)
  show SW Y k9 n9 h 0 [.ref 1000, .int p0, .ref 4500, xx_d] []
  refine sw_aload_n O (xx_dt dd_L_wins 0 rfl) rfl ?_
  refine sw_aload_n O (xx_dt dd_L_wins 1 rfl) rfl ?_
  refine sw_iload_n O (xx_dt dd_L_wins 2 rfl) rfl ?_
  refine xx_wid (k' := 0 + k9) (n' := 0 + n9) (by omega) (by omega) (sw_callVc (hh := hh_L_wins) (as := [.int p0]) (st := [.ref 4500]) (k := 0) (n := 0) O hC ce_X7_wins ml_L_98 iv_X7_wins cl_X7 rfl h0 (xx_dt dd_L_wins 3 rfl) (Nat.le_refl _) rfl rfl (Nat.le_of_ble_eq_true rfl) (fun v h' q _ => ?_) HT (fun E h' q _ => ?_))
  · obtain ⟨q1, rfl⟩ := q
    cases o with
    | inr E => cases q1
    | inl w =>
      cases q1
      show SW Y 0 0 h' 6 [.ref 1000, .int p0, .ref 4500, xx_d] [.int w, .ref 4500]
      refine sw_i2l O (xx_dt dd_L_wins 4 rfl) ?_
      refine sw_put (h2 := xx_up h' 4500 (14, 2, updV F 0 (.long (Int32.toInt64 w)))) O (xx_dt dd_L_wins 5 rfl) cl_X8 fl_L_13 hO (by decide) (by omega) rfl (fun _ => ⟨rfl, rfl⟩) rfl ?_
      refine sw_goto (tgt := 16) O (xx_dt dd_L_wins 6 rfl) (by decide) ?_
      refine sw_iconst (x := 0) O (xx_dt dd_L_wins 10 rfl) (by decide) ?_
      exact sw_iret O (xx_dt dd_L_wins 11 rfl) rfl rfl (by rw [hQ]; exact ⟨rfl, rfl⟩)
  · obtain ⟨q1, rfl⟩ := q
    cases o with
    | inl w => cases q1
    | inr E9 =>
      cases q1
      obtain rfl := hE _ rfl
      refine ⟨13, ⟨[], ⟨0, 10, 13, 27⟩, [], rfl, fun z hz => absurd hz List.not_mem_nil, rfl, by decide, ck_L_27, ex_IOB, rfl⟩, ?_⟩
      refine .inr ⟨3, (xx_dt dd_L_wins 7 rfl), by decide, ?_⟩
      show SW Y 0 0 h' 14 [.ref 1000, .int p0, .ref 4500, xx_d] []
      refine sw_iconst (x := 1) O (xx_dt dd_L_wins 8 rfl) (by decide) ?_
      exact sw_iret O (xx_dt dd_L_wins 9 rfl) rfl rfl (by rw [hQ]; exact ⟨rfl, rfl⟩)
theorem lw_pays {l : Launch} {h h2 : XH} (hl : l.stackTraces = false) {d9 k9 n9 : Nat} {p0 p1 : Int32} {o : Int32 ⊕ String} {f0 F : Nat → Value} (hC : XEo l m_X7_pays d9 k9 n9 [.ref 1000, .int p0, .int p1] h (xoi o) h2) (h0 : h 1000 = some (13, 12, f0)) (hO : h2 4500 = some (14, 2, F)) (hE : ∀ E, o = .inr E → E = eIOB) : XMetH l m_L_pays hh_L_pays (d9 + 1) k9 n9 [.ref 1000, .int p0, .int p1, .ref 4500] h (fun o' g => o' = .inl (some (.int (lw_k [eIOB] o))) ∧ g = lw_g h2 F o Int32.toInt64) := by
  refine XMetH.of hl rfl rfl (Nat.le_of_ble_eq_true rfl) (fun E g q => by cases q.1) (fun Y O HT hh hQ => ?_)
  show SW Y k9 n9 h 0 [.ref 1000, .int p0, .int p1, .ref 4500, xx_d] []
  refine sw_aload_n O (xx_dt dd_L_pays 0 rfl) rfl ?_
  refine sw_aload_n O (xx_dt dd_L_pays 1 rfl) rfl ?_
  refine sw_iload_n O (xx_dt dd_L_pays 2 rfl) rfl ?_
  refine sw_iload_n O (xx_dt dd_L_pays 3 rfl) rfl ?_
  refine xx_wid (k' := 0 + k9) (n' := 0 + n9) (by omega) (by omega) (sw_callVc (hh := hh_L_pays) (as := [.int p0, .int p1]) (st := [.ref 4500]) (k := 0) (n := 0) O hC ce_X7_pays ml_L_101 iv_X7_pays cl_X7 rfl h0 (xx_dt dd_L_pays 4 rfl) (Nat.le_refl _) rfl rfl (Nat.le_of_ble_eq_true rfl) (fun v h' q _ => ?_) HT (fun E h' q _ => ?_))
  · obtain ⟨q1, rfl⟩ := q
    cases o with
    | inr E => cases q1
    | inl w =>
      cases q1
      show SW Y 0 0 h' 7 [.ref 1000, .int p0, .int p1, .ref 4500, xx_d] [.int w, .ref 4500]
      refine sw_i2l O (xx_dt dd_L_pays 5 rfl) ?_
      refine sw_put (h2 := xx_up h' 4500 (14, 2, updV F 0 (.long (Int32.toInt64 w)))) O (xx_dt dd_L_pays 6 rfl) cl_X8 fl_L_13 hO (by decide) (by omega) rfl (fun _ => ⟨rfl, rfl⟩) rfl ?_
      refine sw_goto (tgt := 18) O (xx_dt dd_L_pays 7 rfl) (by decide) ?_
      refine sw_iconst (x := 0) O (xx_dt dd_L_pays 11 rfl) (by decide) ?_
      exact sw_iret O (xx_dt dd_L_pays 12 rfl) rfl rfl (by rw [hQ]; exact ⟨rfl, rfl⟩)
  · obtain ⟨q1, rfl⟩ := q
    cases o with
    | inl w => cases q1
    | inr E9 =>
      cases q1
      obtain rfl := hE _ rfl
      refine ⟨14, ⟨[], ⟨0, 11, 14, 27⟩, [], rfl, fun z hz => absurd hz List.not_mem_nil, rfl, by decide, ck_L_27, ex_IOB, rfl⟩, ?_⟩
      refine .inl ⟨4, (xx_dt dd_L_pays 8 rfl), by decide, ?_⟩
      show SW Y 0 0 h' 16 [.ref 1000, .int p0, .int p1, .ref 4500, xx_d] []
      refine sw_iconst (x := 1) O (xx_dt dd_L_pays 9 rfl) (by decide) ?_
      exact sw_iret O (xx_dt dd_L_pays 10 rfl) rfl rfl (by rw [hQ]; exact ⟨rfl, rfl⟩)
theorem lw_holder {l : Launch} {h h2 : XH} (hl : l.stackTraces = false) {d9 k9 n9 : Nat} {p0 p1 : Int32} {o : Int32 ⊕ String} {f0 F : Nat → Value} (hC : XEo l m_X7_holder d9 k9 n9 [.ref 1000, .int p0, .int p1] h (xoi o) h2) (h0 : h 1000 = some (13, 12, f0)) (hO : h2 4500 = some (14, 2, F)) (hE : ∀ E, o = .inr E → E = eIOB) : XMetH l m_L_holder hh_L_holder (d9 + 1) k9 n9 [.ref 1000, .int p0, .int p1, .ref 4500] h (fun o' g => o' = .inl (some (.int (lw_k [eIOB] o))) ∧ g = lw_g h2 F o Int32.toInt64) := by
  refine XMetH.of hl rfl rfl (Nat.le_of_ble_eq_true rfl) (fun E g q => by cases q.1) (fun Y O HT hh hQ => ?_)
  show SW Y k9 n9 h 0 [.ref 1000, .int p0, .int p1, .ref 4500, xx_d] []
  refine sw_aload_n O (xx_dt dd_L_holder 0 rfl) rfl ?_
  refine sw_aload_n O (xx_dt dd_L_holder 1 rfl) rfl ?_
  refine sw_iload_n O (xx_dt dd_L_holder 2 rfl) rfl ?_
  refine sw_iload_n O (xx_dt dd_L_holder 3 rfl) rfl ?_
  refine xx_wid (k' := 0 + k9) (n' := 0 + n9) (by omega) (by omega) (sw_callVc (hh := hh_L_holder) (as := [.int p0, .int p1]) (st := [.ref 4500]) (k := 0) (n := 0) O hC ce_X7_holder ml_L_104 iv_X7_holder cl_X7 rfl h0 (xx_dt dd_L_holder 4 rfl) (Nat.le_refl _) rfl rfl (Nat.le_of_ble_eq_true rfl) (fun v h' q _ => ?_) HT (fun E h' q _ => ?_))
  · obtain ⟨q1, rfl⟩ := q
    cases o with
    | inr E => cases q1
    | inl w =>
      cases q1
      show SW Y 0 0 h' 7 [.ref 1000, .int p0, .int p1, .ref 4500, xx_d] [.int w, .ref 4500]
      refine sw_i2l O (xx_dt dd_L_holder 5 rfl) ?_
      refine sw_put (h2 := xx_up h' 4500 (14, 2, updV F 0 (.long (Int32.toInt64 w)))) O (xx_dt dd_L_holder 6 rfl) cl_X8 fl_L_13 hO (by decide) (by omega) rfl (fun _ => ⟨rfl, rfl⟩) rfl ?_
      refine sw_goto (tgt := 18) O (xx_dt dd_L_holder 7 rfl) (by decide) ?_
      refine sw_iconst (x := 0) O (xx_dt dd_L_holder 11 rfl) (by decide) ?_
      exact sw_iret O (xx_dt dd_L_holder 12 rfl) rfl rfl (by rw [hQ]; exact ⟨rfl, rfl⟩)
  · obtain ⟨q1, rfl⟩ := q
    cases o with
    | inl w => cases q1
    | inr E9 =>
      cases q1
      obtain rfl := hE _ rfl
      refine ⟨14, ⟨[], ⟨0, 11, 14, 27⟩, [], rfl, fun z hz => absurd hz List.not_mem_nil, rfl, by decide, ck_L_27, ex_IOB, rfl⟩, ?_⟩
      refine .inl ⟨4, (xx_dt dd_L_holder 8 rfl), by decide, ?_⟩
      show SW Y 0 0 h' 16 [.ref 1000, .int p0, .int p1, .ref 4500, xx_d] []
      refine sw_iconst (x := 1) O (xx_dt dd_L_holder 9 rfl) (by decide) ?_
      exact sw_iret O (xx_dt dd_L_holder 10 rfl) rfl rfl (by rw [hQ]; exact ⟨rfl, rfl⟩)
theorem lw_chart {l : Launch} {h h2 : XH} (hl : l.stackTraces = false) {d9 k9 n9 : Nat} {p0 : Int32} {o : Nat ⊕ String} {f0 F : Nat → Value} (hC : XEo l m_X7_chart d9 k9 n9 [.ref 1000, .int p0] h (xor o) h2) (h0 : h 1000 = some (13, 12, f0)) (hO : h2 4500 = some (14, 2, F)) (hE : ∀ E, o = .inr E → E = eIOB) : XMetH l m_L_chart hh_L_chart (d9 + 1) k9 n9 [.ref 1000, .int p0, .ref 4500] h (fun o' g => o' = .inl (some (.int (lw_k [eIOB] o))) ∧ g = lw_gs h2 F o) := by
  refine XMetH.of hl rfl rfl (Nat.le_of_ble_eq_true rfl) (fun E g q => by cases q.1) (fun Y O HT hh hQ => ?_)
  show SW Y k9 n9 h 0 [.ref 1000, .int p0, .ref 4500, xx_d] []
  refine sw_aload_n O (xx_dt dd_L_chart 0 rfl) rfl ?_
  refine sw_aload_n O (xx_dt dd_L_chart 1 rfl) rfl ?_
  refine sw_iload_n O (xx_dt dd_L_chart 2 rfl) rfl ?_
  refine xx_wid (k' := 0 + k9) (n' := 0 + n9) (by omega) (by omega) (sw_callVc (hh := hh_L_chart) (as := [.int p0]) (st := [.ref 4500]) (k := 0) (n := 0) O hC ce_X7_chart ml_L_107 iv_X7_chart cl_X7 rfl h0 (xx_dt dd_L_chart 3 rfl) (Nat.le_refl _) rfl rfl (Nat.le_of_ble_eq_true rfl) (fun v h' q _ => ?_) HT (fun E h' q _ => ?_))
  · obtain ⟨q1, rfl⟩ := q
    cases o with
    | inr E => cases q1
    | inl w =>
      cases q1
      show SW Y 0 0 h' 6 [.ref 1000, .int p0, .ref 4500, xx_d] [.ref w, .ref 4500]
      refine sw_put (h2 := xx_up h' 4500 (14, 2, updV F 1 (.ref w))) O (xx_dt dd_L_chart 4 rfl) cl_X8 fl_L_111 hO (by decide) (by omega) rfl (fun _ => ⟨rfl, rfl⟩) rfl ?_
      refine sw_goto (tgt := 15) O (xx_dt dd_L_chart 5 rfl) (by decide) ?_
      refine sw_iconst (x := 0) O (xx_dt dd_L_chart 9 rfl) (by decide) ?_
      exact sw_iret O (xx_dt dd_L_chart 10 rfl) rfl rfl (by rw [hQ]; exact ⟨rfl, rfl⟩)
  · obtain ⟨q1, rfl⟩ := q
    cases o with
    | inl w => cases q1
    | inr E9 =>
      cases q1
      obtain rfl := hE _ rfl
      refine ⟨12, ⟨[], ⟨0, 9, 12, 27⟩, [], rfl, fun z hz => absurd hz List.not_mem_nil, rfl, by decide, ck_L_27, ex_IOB, rfl⟩, ?_⟩
      refine .inr ⟨3, (xx_dt dd_L_chart 6 rfl), by decide, ?_⟩
      show SW Y 0 0 h' 13 [.ref 1000, .int p0, .ref 4500, xx_d] []
      refine sw_iconst (x := 1) O (xx_dt dd_L_chart 7 rfl) (by decide) ?_
      exact sw_iret O (xx_dt dd_L_chart 8 rfl) rfl rfl (by rw [hQ]; exact ⟨rfl, rfl⟩)
theorem lw_sale {l : Launch} {h h2 : XH} (hl : l.stackTraces = false) {d9 k9 n9 : Nat} {p0 : Int32} {o : Int32 ⊕ String} {f0 F : Nat → Value} (hC : XEo l m_X7_sale d9 k9 n9 [.ref 1000, .int p0] h (xoi o) h2) (h0 : h 1000 = some (13, 12, f0)) (hO : h2 4500 = some (14, 2, F)) (hE : ∀ E, o = .inr E → E = eIAE) : XMetH l m_L_sale hh_L_sale (d9 + 1) k9 n9 [.ref 1000, .int p0, .ref 4500] h (fun o' g => o' = .inl (some (.int (lw_k [eIAE] o))) ∧ g = lw_g h2 F o Int32.toInt64) := by
  refine XMetH.of hl rfl rfl (Nat.le_of_ble_eq_true rfl) (fun E g q => by cases q.1) (fun Y O HT hh hQ => ?_)
  show SW Y k9 n9 h 0 [.ref 1000, .int p0, .ref 4500, xx_d] []
  refine sw_aload_n O (xx_dt dd_L_sale 0 rfl) rfl ?_
  refine sw_aload_n O (xx_dt dd_L_sale 1 rfl) rfl ?_
  refine sw_iload_n O (xx_dt dd_L_sale 2 rfl) rfl ?_
  refine xx_wid (k' := 0 + k9) (n' := 0 + n9) (by omega) (by omega) (sw_callVc (hh := hh_L_sale) (as := [.int p0]) (st := [.ref 4500]) (k := 0) (n := 0) O hC ce_X7_sale ml_L_115 iv_X7_sale cl_X7 rfl h0 (xx_dt dd_L_sale 3 rfl) (Nat.le_refl _) rfl rfl (Nat.le_of_ble_eq_true rfl) (fun v h' q _ => ?_) HT (fun E h' q _ => ?_))
  · obtain ⟨q1, rfl⟩ := q
    cases o with
    | inr E => cases q1
    | inl w =>
      cases q1
      show SW Y 0 0 h' 6 [.ref 1000, .int p0, .ref 4500, xx_d] [.int w, .ref 4500]
      refine sw_i2l O (xx_dt dd_L_sale 4 rfl) ?_
      refine sw_put (h2 := xx_up h' 4500 (14, 2, updV F 0 (.long (Int32.toInt64 w)))) O (xx_dt dd_L_sale 5 rfl) cl_X8 fl_L_13 hO (by decide) (by omega) rfl (fun _ => ⟨rfl, rfl⟩) rfl ?_
      refine sw_goto (tgt := 16) O (xx_dt dd_L_sale 6 rfl) (by decide) ?_
      refine sw_iconst (x := 0) O (xx_dt dd_L_sale 10 rfl) (by decide) ?_
      exact sw_iret O (xx_dt dd_L_sale 11 rfl) rfl rfl (by rw [hQ]; exact ⟨rfl, rfl⟩)
  · obtain ⟨q1, rfl⟩ := q
    cases o with
    | inl w => cases q1
    | inr E9 =>
      cases q1
      obtain rfl := hE _ rfl
      refine ⟨13, ⟨[], ⟨0, 10, 13, 19⟩, [], rfl, fun z hz => absurd hz List.not_mem_nil, rfl, by decide, ck_L_19, ex_IAE, rfl⟩, ?_⟩
      refine .inr ⟨3, (xx_dt dd_L_sale 7 rfl), by decide, ?_⟩
      show SW Y 0 0 h' 14 [.ref 1000, .int p0, .ref 4500, xx_d] []
      refine sw_iconst (x := 1) O (xx_dt dd_L_sale 8 rfl) (by decide) ?_
      exact sw_iret O (xx_dt dd_L_sale 9 rfl) rfl rfl (by rw [hQ]; exact ⟨rfl, rfl⟩)
theorem lw_worth {l : Launch} {h h2 : XH} (hl : l.stackTraces = false) {d9 k9 n9 : Nat} {p0 : Int32} {o : Int32 ⊕ String} {f0 F : Nat → Value} (hC : XEo l m_X7_worth d9 k9 n9 [.ref 1000, .int p0] h (xoi o) h2) (h0 : h 1000 = some (13, 12, f0)) (hO : h2 4500 = some (14, 2, F)) (hE : ∀ E, o = .inr E → E = eIAE) : XMetH l m_L_worth hh_L_worth (d9 + 1) k9 n9 [.ref 1000, .int p0, .ref 4500] h (fun o' g => o' = .inl (some (.int (lw_k [eIAE] o))) ∧ g = lw_g h2 F o Int32.toInt64) := by
  refine XMetH.of hl rfl rfl (Nat.le_of_ble_eq_true rfl) (fun E g q => by cases q.1) (fun Y O HT hh hQ => ?_)
  show SW Y k9 n9 h 0 [.ref 1000, .int p0, .ref 4500, xx_d] []
  refine sw_aload_n O (xx_dt dd_L_worth 0 rfl) rfl ?_
  refine sw_aload_n O (xx_dt dd_L_worth 1 rfl) rfl ?_
  refine sw_iload_n O (xx_dt dd_L_worth 2 rfl) rfl ?_
  refine xx_wid (k' := 0 + k9) (n' := 0 + n9) (by omega) (by omega) (sw_callVc (hh := hh_L_worth) (as := [.int p0]) (st := [.ref 4500]) (k := 0) (n := 0) O hC ce_X7_worth ml_L_118 iv_X7_worth cl_X7 rfl h0 (xx_dt dd_L_worth 3 rfl) (Nat.le_refl _) rfl rfl (Nat.le_of_ble_eq_true rfl) (fun v h' q _ => ?_) HT (fun E h' q _ => ?_))
  · obtain ⟨q1, rfl⟩ := q
    cases o with
    | inr E => cases q1
    | inl w =>
      cases q1
      show SW Y 0 0 h' 6 [.ref 1000, .int p0, .ref 4500, xx_d] [.int w, .ref 4500]
      refine sw_i2l O (xx_dt dd_L_worth 4 rfl) ?_
      refine sw_put (h2 := xx_up h' 4500 (14, 2, updV F 0 (.long (Int32.toInt64 w)))) O (xx_dt dd_L_worth 5 rfl) cl_X8 fl_L_13 hO (by decide) (by omega) rfl (fun _ => ⟨rfl, rfl⟩) rfl ?_
      refine sw_goto (tgt := 16) O (xx_dt dd_L_worth 6 rfl) (by decide) ?_
      refine sw_iconst (x := 0) O (xx_dt dd_L_worth 10 rfl) (by decide) ?_
      exact sw_iret O (xx_dt dd_L_worth 11 rfl) rfl rfl (by rw [hQ]; exact ⟨rfl, rfl⟩)
  · obtain ⟨q1, rfl⟩ := q
    cases o with
    | inl w => cases q1
    | inr E9 =>
      cases q1
      obtain rfl := hE _ rfl
      refine ⟨13, ⟨[], ⟨0, 10, 13, 19⟩, [], rfl, fun z hz => absurd hz List.not_mem_nil, rfl, by decide, ck_L_19, ex_IAE, rfl⟩, ?_⟩
      refine .inr ⟨3, (xx_dt dd_L_worth 7 rfl), by decide, ?_⟩
      show SW Y 0 0 h' 14 [.ref 1000, .int p0, .ref 4500, xx_d] []
      refine sw_iconst (x := 1) O (xx_dt dd_L_worth 8 rfl) (by decide) ?_
      exact sw_iret O (xx_dt dd_L_worth 9 rfl) rfl rfl (by rw [hQ]; exact ⟨rfl, rfl⟩)
theorem lw_wouldPay {l : Launch} {h h2 : XH} (hl : l.stackTraces = false) {d9 k9 n9 : Nat} {p0 p1 : Int32} {o : Int32 ⊕ String} {f0 F : Nat → Value} (hC : XEo l m_X7_wouldPay d9 k9 n9 [.ref 1000, .int p0, .int p1] h (xoi o) h2) (h0 : h 1000 = some (13, 12, f0)) (hO : h2 4500 = some (14, 2, F)) (hE : ∀ E, o = .inr E → E = eIOB ∨ E = eIAE) : XMetH l m_L_wouldPay hh_L_wouldPay (d9 + 1) k9 n9 [.ref 1000, .int p0, .int p1, .ref 4500] h (fun o' g => o' = .inl (some (.int (lw_k [eIOB, eIAE] o))) ∧ g = lw_g h2 F o Int32.toInt64) := by
  refine XMetH.of hl rfl rfl (Nat.le_of_ble_eq_true rfl) (fun E g q => by cases q.1) (fun Y O HT hh hQ => ?_)
  show SW Y k9 n9 h 0 [.ref 1000, .int p0, .int p1, .ref 4500, xx_d] []
  refine sw_aload_n O (xx_dt dd_L_wouldPay 0 rfl) rfl ?_
  refine sw_aload_n O (xx_dt dd_L_wouldPay 1 rfl) rfl ?_
  refine sw_iload_n O (xx_dt dd_L_wouldPay 2 rfl) rfl ?_
  refine sw_iload_n O (xx_dt dd_L_wouldPay 3 rfl) rfl ?_
  refine xx_wid (k' := 0 + k9) (n' := 0 + n9) (by omega) (by omega) (sw_callVc (hh := hh_L_wouldPay) (as := [.int p0, .int p1]) (st := [.ref 4500]) (k := 0) (n := 0) O hC ce_X7_wouldPay ml_L_121 iv_X7_wouldPay cl_X7 rfl h0 (xx_dt dd_L_wouldPay 4 rfl) (Nat.le_refl _) rfl rfl (Nat.le_of_ble_eq_true rfl) (fun v h' q _ => ?_) HT (fun E h' q _ => ?_))
  · obtain ⟨q1, rfl⟩ := q
    cases o with
    | inr E => cases q1
    | inl w =>
      cases q1
      show SW Y 0 0 h' 7 [.ref 1000, .int p0, .int p1, .ref 4500, xx_d] [.int w, .ref 4500]
      refine sw_i2l O (xx_dt dd_L_wouldPay 5 rfl) ?_
      refine sw_put (h2 := xx_up h' 4500 (14, 2, updV F 0 (.long (Int32.toInt64 w)))) O (xx_dt dd_L_wouldPay 6 rfl) cl_X8 fl_L_13 hO (by decide) (by omega) rfl (fun _ => ⟨rfl, rfl⟩) rfl ?_
      refine sw_goto (tgt := 22) O (xx_dt dd_L_wouldPay 7 rfl) (by decide) ?_
      refine sw_iconst (x := 0) O (xx_dt dd_L_wouldPay 14 rfl) (by decide) ?_
      exact sw_iret O (xx_dt dd_L_wouldPay 15 rfl) rfl rfl (by rw [hQ]; exact ⟨rfl, rfl⟩)
  · obtain ⟨q1, rfl⟩ := q
    cases o with
    | inl w => cases q1
    | inr E9 =>
      cases q1
      rcases hE _ rfl with rfl | rfl
      · refine ⟨14, ⟨[], ⟨0, 11, 14, 27⟩, [⟨0, 11, 18, 19⟩], rfl, fun z hz => absurd hz List.not_mem_nil, rfl, by decide, ck_L_27, ex_IOB, rfl⟩, ?_⟩
        refine .inl ⟨4, (xx_dt dd_L_wouldPay 8 rfl), by decide, ?_⟩
        show SW Y 0 0 h' 16 [.ref 1000, .int p0, .int p1, .ref 4500, xx_d] []
        refine sw_iconst (x := 1) O (xx_dt dd_L_wouldPay 9 rfl) (by decide) ?_
        exact sw_iret O (xx_dt dd_L_wouldPay 10 rfl) rfl rfl (by rw [hQ]; exact ⟨rfl, rfl⟩)
      · refine ⟨18, ⟨[⟨0, 11, 14, 27⟩], ⟨0, 11, 18, 19⟩, [], rfl, fun z hz => by
          simp only [List.mem_cons, List.not_mem_nil, or_false] at hz
          rcases hz with rfl
          · exact ⟨by decide, _, ck_L_27, (.head _)⟩, rfl, by decide, ck_L_19, ex_IAE, rfl⟩, ?_⟩
        refine .inl ⟨4, (xx_dt dd_L_wouldPay 11 rfl), by decide, ?_⟩
        show SW Y 0 0 h' 20 [.ref 1000, .int p0, .int p1, .ref 4500, xx_d] []
        refine sw_iconst (x := 2) O (xx_dt dd_L_wouldPay 12 rfl) (by decide) ?_
        exact sw_iret O (xx_dt dd_L_wouldPay 13 rfl) rfl rfl (by rw [hQ]; exact ⟨rfl, rfl⟩)
theorem lw_objects {l : Launch} {h h2 : XH} (hl : l.stackTraces = false) {d9 k9 n9 : Nat} {p0 p1 : Int32} {o : Int32 ⊕ String} {f0 F : Nat → Value} (hC : XEo l m_X7_objects d9 k9 n9 [.ref 1000, .int p0, .int p1] h (xoi o) h2) (h0 : h 1000 = some (13, 12, f0)) (hO : h2 4500 = some (14, 2, F)) (hE : ∀ E, o = .inr E → E = eIAE) : XMetH l m_L_objects hh_L_objects (d9 + 1) k9 n9 [.ref 1000, .int p0, .int p1, .ref 4500] h (fun o' g => o' = .inl (some (.int (lw_k [eIAE] o))) ∧ g = lw_g h2 F o Int32.toInt64) := by
  refine XMetH.of hl rfl rfl (Nat.le_of_ble_eq_true rfl) (fun E g q => by cases q.1) (fun Y O HT hh hQ => ?_)
  show SW Y k9 n9 h 0 [.ref 1000, .int p0, .int p1, .ref 4500, xx_d] []
  refine sw_aload_n O (xx_dt dd_L_objects 0 rfl) rfl ?_
  refine sw_aload_n O (xx_dt dd_L_objects 1 rfl) rfl ?_
  refine sw_iload_n O (xx_dt dd_L_objects 2 rfl) rfl ?_
  refine sw_iload_n O (xx_dt dd_L_objects 3 rfl) rfl ?_
  refine xx_wid (k' := 0 + k9) (n' := 0 + n9) (by omega) (by omega) (sw_callVc (hh := hh_L_objects) (as := [.int p0, .int p1]) (st := [.ref 4500]) (k := 0) (n := 0) O hC ce_X7_objects ml_L_124 iv_X7_objects cl_X7 rfl h0 (xx_dt dd_L_objects 4 rfl) (Nat.le_refl _) rfl rfl (Nat.le_of_ble_eq_true rfl) (fun v h' q _ => ?_) HT (fun E h' q _ => ?_))
  · obtain ⟨q1, rfl⟩ := q
    cases o with
    | inr E => cases q1
    | inl w =>
      cases q1
      show SW Y 0 0 h' 7 [.ref 1000, .int p0, .int p1, .ref 4500, xx_d] [.int w, .ref 4500]
      refine sw_i2l O (xx_dt dd_L_objects 5 rfl) ?_
      refine sw_put (h2 := xx_up h' 4500 (14, 2, updV F 0 (.long (Int32.toInt64 w)))) O (xx_dt dd_L_objects 6 rfl) cl_X8 fl_L_13 hO (by decide) (by omega) rfl (fun _ => ⟨rfl, rfl⟩) rfl ?_
      refine sw_goto (tgt := 18) O (xx_dt dd_L_objects 7 rfl) (by decide) ?_
      refine sw_iconst (x := 0) O (xx_dt dd_L_objects 11 rfl) (by decide) ?_
      exact sw_iret O (xx_dt dd_L_objects 12 rfl) rfl rfl (by rw [hQ]; exact ⟨rfl, rfl⟩)
  · obtain ⟨q1, rfl⟩ := q
    cases o with
    | inl w => cases q1
    | inr E9 =>
      cases q1
      obtain rfl := hE _ rfl
      refine ⟨14, ⟨[], ⟨0, 11, 14, 19⟩, [], rfl, fun z hz => absurd hz List.not_mem_nil, rfl, by decide, ck_L_19, ex_IAE, rfl⟩, ?_⟩
      refine .inl ⟨4, (xx_dt dd_L_objects 8 rfl), by decide, ?_⟩
      show SW Y 0 0 h' 16 [.ref 1000, .int p0, .int p1, .ref 4500, xx_d] []
      refine sw_iconst (x := 1) O (xx_dt dd_L_objects 9 rfl) (by decide) ?_
      exact sw_iret O (xx_dt dd_L_objects 10 rfl) rfl rfl (by rw [hQ]; exact ⟨rfl, rfl⟩)
theorem lw_most {l : Launch} {h h2 : XH} (hl : l.stackTraces = false) {d9 k9 n9 : Nat} {p0 p1 : Int32} {o : Int32 ⊕ String} {f0 F : Nat → Value} (hC : XEo l m_X7_most d9 k9 n9 [.ref 1000, .int p0, .int p1] h (xoi o) h2) (h0 : h 1000 = some (13, 12, f0)) (hO : h2 4500 = some (14, 2, F)) (hE : ∀ E, o = .inr E → E = eIOB) : XMetH l m_L_most hh_L_most (d9 + 1) k9 n9 [.ref 1000, .int p0, .int p1, .ref 4500] h (fun o' g => o' = .inl (some (.int (lw_k [eIOB] o))) ∧ g = lw_g h2 F o Int32.toInt64) := by
  refine XMetH.of hl rfl rfl (Nat.le_of_ble_eq_true rfl) (fun E g q => by cases q.1) (fun Y O HT hh hQ => ?_)
  show SW Y k9 n9 h 0 [.ref 1000, .int p0, .int p1, .ref 4500, xx_d] []
  refine sw_aload_n O (xx_dt dd_L_most 0 rfl) rfl ?_
  refine sw_aload_n O (xx_dt dd_L_most 1 rfl) rfl ?_
  refine sw_iload_n O (xx_dt dd_L_most 2 rfl) rfl ?_
  refine sw_iload_n O (xx_dt dd_L_most 3 rfl) rfl ?_
  refine xx_wid (k' := 0 + k9) (n' := 0 + n9) (by omega) (by omega) (sw_callVc (hh := hh_L_most) (as := [.int p0, .int p1]) (st := [.ref 4500]) (k := 0) (n := 0) O hC ce_X7_most ml_L_127 iv_X7_most cl_X7 rfl h0 (xx_dt dd_L_most 4 rfl) (Nat.le_refl _) rfl rfl (Nat.le_of_ble_eq_true rfl) (fun v h' q _ => ?_) HT (fun E h' q _ => ?_))
  · obtain ⟨q1, rfl⟩ := q
    cases o with
    | inr E => cases q1
    | inl w =>
      cases q1
      show SW Y 0 0 h' 7 [.ref 1000, .int p0, .int p1, .ref 4500, xx_d] [.int w, .ref 4500]
      refine sw_i2l O (xx_dt dd_L_most 5 rfl) ?_
      refine sw_put (h2 := xx_up h' 4500 (14, 2, updV F 0 (.long (Int32.toInt64 w)))) O (xx_dt dd_L_most 6 rfl) cl_X8 fl_L_13 hO (by decide) (by omega) rfl (fun _ => ⟨rfl, rfl⟩) rfl ?_
      refine sw_goto (tgt := 18) O (xx_dt dd_L_most 7 rfl) (by decide) ?_
      refine sw_iconst (x := 0) O (xx_dt dd_L_most 11 rfl) (by decide) ?_
      exact sw_iret O (xx_dt dd_L_most 12 rfl) rfl rfl (by rw [hQ]; exact ⟨rfl, rfl⟩)
  · obtain ⟨q1, rfl⟩ := q
    cases o with
    | inl w => cases q1
    | inr E9 =>
      cases q1
      obtain rfl := hE _ rfl
      refine ⟨14, ⟨[], ⟨0, 11, 14, 27⟩, [], rfl, fun z hz => absurd hz List.not_mem_nil, rfl, by decide, ck_L_27, ex_IOB, rfl⟩, ?_⟩
      refine .inl ⟨4, (xx_dt dd_L_most 8 rfl), by decide, ?_⟩
      show SW Y 0 0 h' 16 [.ref 1000, .int p0, .int p1, .ref 4500, xx_d] []
      refine sw_iconst (x := 1) O (xx_dt dd_L_most 9 rfl) (by decide) ?_
      exact sw_iret O (xx_dt dd_L_most 10 rfl) rfl rfl (by rw [hQ]; exact ⟨rfl, rfl⟩)
theorem lw_contradicts {l : Launch} {h h2 : XH} (hl : l.stackTraces = false) {d9 k9 n9 : Nat} {p0 : Int32} {o : Int32 ⊕ String} {f0 F : Nat → Value} (hC : XEo l m_X7_contradicts d9 k9 n9 [.ref 1000, .int p0] h (xoi o) h2) (h0 : h 1000 = some (13, 12, f0)) (hO : h2 4500 = some (14, 2, F)) (hE : ∀ E, o = .inr E → E = eIOB) : XMetH l m_L_contradicts hh_L_contradicts (d9 + 1) k9 n9 [.ref 1000, .int p0, .ref 4500] h (fun o' g => o' = .inl (some (.int (lw_k [eIOB] o))) ∧ g = lw_g h2 F o Int32.toInt64) := by
  refine XMetH.of hl rfl rfl (Nat.le_of_ble_eq_true rfl) (fun E g q => by cases q.1) (fun Y O HT hh hQ => ?_)
  show SW Y k9 n9 h 0 [.ref 1000, .int p0, .ref 4500, xx_d] []
  refine sw_aload_n O (xx_dt dd_L_contradicts 0 rfl) rfl ?_
  refine sw_aload_n O (xx_dt dd_L_contradicts 1 rfl) rfl ?_
  refine sw_iload_n O (xx_dt dd_L_contradicts 2 rfl) rfl ?_
  refine xx_wid (k' := 0 + k9) (n' := 0 + n9) (by omega) (by omega) (sw_callVc (hh := hh_L_contradicts) (as := [.int p0]) (st := [.ref 4500]) (k := 0) (n := 0) O hC ce_X7_contradicts ml_L_130 iv_X7_contradicts cl_X7 rfl h0 (xx_dt dd_L_contradicts 3 rfl) (Nat.le_refl _) rfl rfl (Nat.le_of_ble_eq_true rfl) (fun v h' q _ => ?_) HT (fun E h' q _ => ?_))
  · obtain ⟨q1, rfl⟩ := q
    cases o with
    | inr E => cases q1
    | inl w =>
      cases q1
      show SW Y 0 0 h' 6 [.ref 1000, .int p0, .ref 4500, xx_d] [.int w, .ref 4500]
      refine sw_i2l O (xx_dt dd_L_contradicts 4 rfl) ?_
      refine sw_put (h2 := xx_up h' 4500 (14, 2, updV F 0 (.long (Int32.toInt64 w)))) O (xx_dt dd_L_contradicts 5 rfl) cl_X8 fl_L_13 hO (by decide) (by omega) rfl (fun _ => ⟨rfl, rfl⟩) rfl ?_
      refine sw_goto (tgt := 16) O (xx_dt dd_L_contradicts 6 rfl) (by decide) ?_
      refine sw_iconst (x := 0) O (xx_dt dd_L_contradicts 10 rfl) (by decide) ?_
      exact sw_iret O (xx_dt dd_L_contradicts 11 rfl) rfl rfl (by rw [hQ]; exact ⟨rfl, rfl⟩)
  · obtain ⟨q1, rfl⟩ := q
    cases o with
    | inl w => cases q1
    | inr E9 =>
      cases q1
      obtain rfl := hE _ rfl
      refine ⟨13, ⟨[], ⟨0, 10, 13, 27⟩, [], rfl, fun z hz => absurd hz List.not_mem_nil, rfl, by decide, ck_L_27, ex_IOB, rfl⟩, ?_⟩
      refine .inr ⟨3, (xx_dt dd_L_contradicts 7 rfl), by decide, ?_⟩
      show SW Y 0 0 h' 14 [.ref 1000, .int p0, .ref 4500, xx_d] []
      refine sw_iconst (x := 1) O (xx_dt dd_L_contradicts 8 rfl) (by decide) ?_
      exact sw_iret O (xx_dt dd_L_contradicts 9 rfl) rfl rfl (by rw [hQ]; exact ⟨rfl, rfl⟩)
theorem lw_anew {l : Launch} {h h2 : XH} (hl : l.stackTraces = false) {d9 k9 n9 : Nat} {p0 p1 p2 p3 : Int32} {o : Int32 ⊕ String} {f0 F : Nat → Value} (hC : XEo l m_X7_anew d9 k9 n9 [.ref 1000, .int p0, .int p1, .int p2, .int p3] h (xoi o) h2) (h0 : h 1000 = some (13, 12, f0)) (hO : h2 4500 = some (14, 2, F)) (hE : ∀ E, o = .inr E → E = eIOB ∨ E = eIAE) : XMetH l m_L_anew hh_L_anew (d9 + 1) k9 n9 [.ref 1000, .int p0, .int p1, .int p2, .int p3, .ref 4500] h (fun o' g => o' = .inl (some (.int (lw_k [eIOB, eIAE] o))) ∧ g = lw_g h2 F o Int32.toInt64) := by
  refine XMetH.of hl rfl rfl (Nat.le_of_ble_eq_true rfl) (fun E g q => by cases q.1) (fun Y O HT hh hQ => ?_)
  show SW Y k9 n9 h 0 [.ref 1000, .int p0, .int p1, .int p2, .int p3, .ref 4500, xx_d] []
  refine sw_aload O (xx_dt dd_L_anew 0 rfl) rfl ?_
  refine sw_aload_n O (xx_dt dd_L_anew 1 rfl) rfl ?_
  refine sw_iload_n O (xx_dt dd_L_anew 2 rfl) rfl ?_
  refine sw_iload_n O (xx_dt dd_L_anew 3 rfl) rfl ?_
  refine sw_iload_n O (xx_dt dd_L_anew 4 rfl) rfl ?_
  refine sw_iload O (xx_dt dd_L_anew 5 rfl) rfl ?_
  refine xx_wid (k' := 0 + k9) (n' := 0 + n9) (by omega) (by omega) (sw_callVc (hh := hh_L_anew) (as := [.int p0, .int p1, .int p2, .int p3]) (st := [.ref 4500]) (k := 0) (n := 0) O hC ce_X7_anew ml_L_133 iv_X7_anew cl_X7 rfl h0 (xx_dt dd_L_anew 6 rfl) (Nat.le_refl _) rfl rfl (Nat.le_of_ble_eq_true rfl) (fun v h' q _ => ?_) HT (fun E h' q _ => ?_))
  · obtain ⟨q1, rfl⟩ := q
    cases o with
    | inr E => cases q1
    | inl w =>
      cases q1
      show SW Y 0 0 h' 11 [.ref 1000, .int p0, .int p1, .int p2, .int p3, .ref 4500, xx_d] [.int w, .ref 4500]
      refine sw_i2l O (xx_dt dd_L_anew 7 rfl) ?_
      refine sw_put (h2 := xx_up h' 4500 (14, 2, updV F 0 (.long (Int32.toInt64 w)))) O (xx_dt dd_L_anew 8 rfl) cl_X8 fl_L_13 hO (by decide) (by omega) rfl (fun _ => ⟨rfl, rfl⟩) rfl ?_
      refine sw_goto (tgt := 26) O (xx_dt dd_L_anew 9 rfl) (by decide) ?_
      refine sw_iconst (x := 0) O (xx_dt dd_L_anew 16 rfl) (by decide) ?_
      exact sw_iret O (xx_dt dd_L_anew 17 rfl) rfl rfl (by rw [hQ]; exact ⟨rfl, rfl⟩)
  · obtain ⟨q1, rfl⟩ := q
    cases o with
    | inl w => cases q1
    | inr E9 =>
      cases q1
      rcases hE _ rfl with rfl | rfl
      · refine ⟨18, ⟨[], ⟨0, 15, 18, 27⟩, [⟨0, 15, 22, 19⟩], rfl, fun z hz => absurd hz List.not_mem_nil, rfl, by decide, ck_L_27, ex_IOB, rfl⟩, ?_⟩
        refine .inl ⟨6, (xx_dt dd_L_anew 10 rfl), by decide, ?_⟩
        show SW Y 0 0 h' 20 [.ref 1000, .int p0, .int p1, .int p2, .int p3, .ref 4500, xx_d] []
        refine sw_iconst (x := 1) O (xx_dt dd_L_anew 11 rfl) (by decide) ?_
        exact sw_iret O (xx_dt dd_L_anew 12 rfl) rfl rfl (by rw [hQ]; exact ⟨rfl, rfl⟩)
      · refine ⟨22, ⟨[⟨0, 15, 18, 27⟩], ⟨0, 15, 22, 19⟩, [], rfl, fun z hz => by
          simp only [List.mem_cons, List.not_mem_nil, or_false] at hz
          rcases hz with rfl
          · exact ⟨by decide, _, ck_L_27, (.head _)⟩, rfl, by decide, ck_L_19, ex_IAE, rfl⟩, ?_⟩
        refine .inl ⟨6, (xx_dt dd_L_anew 13 rfl), by decide, ?_⟩
        show SW Y 0 0 h' 24 [.ref 1000, .int p0, .int p1, .int p2, .int p3, .ref 4500, xx_d] []
        refine sw_iconst (x := 2) O (xx_dt dd_L_anew 14 rfl) (by decide) ?_
        exact sw_iret O (xx_dt dd_L_anew 15 rfl) rfl rfl (by rw [hQ]; exact ⟨rfl, rfl⟩)
