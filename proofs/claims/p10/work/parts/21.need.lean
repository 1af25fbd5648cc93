/-! ===== contracts whose end, a throw too, is known exactly ===== -/
def XEo (l : Launch) (M : XM) (d k n : Nat) (as : List Value) (h : XH) (o : XO) (h2 : XH) : Prop := XMet l M d k n as h (fun o' g => o' = o ∧ g = h2)
abbrev eIAE : String := "java/lang/IllegalArgumentException"
abbrev eISE : String := "java/lang/IllegalStateException"
abbrev eIOB : String := "java/lang/IndexOutOfBoundsException"
def xoi : Int32 ⊕ String → XO | .inl x => .inl (some (.int x)) | .inr E => .inr E
def xol : Int64 ⊕ String → XO | .inl x => .inl (some (.long x)) | .inr E => .inr E
def xov : Unit ⊕ String → XO | .inl _ => .inl none | .inr E => .inr E
section
variable {Y : XY} {M : XM} {l : Launch} {d k n : Nat} {h : XH} {pc : Nat} {ls st : List Value}
theorem sw_callVt {M' : XM} {d' k' n' idx ci N b : Nat} {f : Nat → Value} {C E : String} {T : u_T} {ty : Nat → FieldType} {as stk : List Value} {h2 : XH} (O : xx_O Y M l d) (hM : XEo l M' d' k' n' (.ref b :: as) h (.inr E) h2) (Ec : xx_ce M') (hl : xx_ml M.2.2.2.2.1 idx M'.1) (hsel : Cond.instanceMethod M'.1 ∈ xx_gws ∧ Cond.selects M'.1.cls M'.1 M'.1 ∈ xx_gws)
    (K : xx_cl ci C T N ty) (hC : C = M'.1.cls) (hb : h b = some (ci, N, f)) (hd : decode M.2.1 pc = .ok (.invokevirtual idx, 3)) (hdd : d' + 1 ≤ d) (hn : as.length = M'.2.2.2.2.2) (hs : stk = as.reverse ++ .ref b :: st) (hc : (st.map fun v => v.category).sum ≤ 8)
    (hQ : xy_Q Y (.inr E) h2) : SW Y (k + k') (n + n') h pc ls stk :=
  sw_callV O hM Ec hl hsel K hC hb hd hdd hn hs hc (fun v' h' q _ => by obtain ⟨e1, -⟩ := q; cases e1) (fun E h' q => by obtain ⟨e1, rfl⟩ := q; cases e1; exact hQ)
theorem sw_callSt {M' : XM} {d' k' n' idx : Nat} {E : String} {as stk : List Value} {h2 : XH} (O : xx_O Y M l d) (hM : XEo l M' d' k' n' as h (.inr E) h2) (Ec : xx_ce M') (hl : xx_ml M.2.2.2.2.1 idx M'.1) (hst0 : Cond.static M'.1 ∈ xx_gws)
    (hd : decode M.2.1 pc = .ok (.invokestatic idx, 3)) (hdd : d' + 1 ≤ d) (hn : as.length = M'.2.2.2.2.2) (hs : stk = as.reverse ++ st) (hc : (st.map fun v => v.category).sum ≤ 8)
    (hQ : xy_Q Y (.inr E) h2) : SW Y (k + k') (n + n') h pc ls stk :=
  sw_callS O hM Ec hl hst0 hd hdd hn hs hc (fun v' h' q _ => by obtain ⟨e1, -⟩ := q; cases e1) (fun E h' q => by obtain ⟨e1, rfl⟩ := q; cases e1; exact hQ)
theorem sw_lsE {ls2 : List Value} (e : ls2 = ls) (kk : SW Y k n h pc ls2 st) : SW Y k n h pc ls st := by subst e; exact kk
end
/-! ===== numbers as they come in ===== -/
theorem cn_nI {k : Nat} (hk : k < 2147483648) : cn (nI k) = k := nI_clamp hk
abbrev n_bt (v lo hi : Int32) : Prop := lo ≤ v ∧ v ≤ hi
abbrev n_lt (x : Int32) (R : Nat) : Prop := x = nI (cn x) ∧ cn x < R
def rn (x : Int32) : Nat := cn x - 1
abbrev n_rd (x : Int32) (K : Nat) : Prop := x = nI (rn x + 1) ∧ rn x < K
theorem cn_of {x : Int32} (h : 0 ≤ x) : x = nI (cn x) ∧ (cn x : Int) = x.toInt := by
  have h1 : (0 : Int) ≤ x.toInt := by have := Int32.le_iff_toInt_le.mp h; simpa using this
  have h2 : (cn x : Int) = x.toInt := by
    show ((x.toInt.toNat : Nat) : Int) = x.toInt
    omega
  refine ⟨?_, h2⟩
  have h3 : nI (cn x) = Int32.ofInt (cn x : Int) := rfl
  rw [h3, h2]
  exact (Int32.ofInt_toInt x).symm
theorem i_lt {x y : Int32} : x < y ↔ x.toInt < y.toInt := Int32.lt_iff_toInt_lt
theorem i_le {x y : Int32} : x ≤ y ↔ x.toInt ≤ y.toInt := Int32.le_iff_toInt_le
theorem toI_nI {k : Nat} (hk : k < 2147483648) : (nI k).toInt = (k : Int) := by
  have := (cn_of (x := nI k) (i_le.mpr (by
    have h0 := (nI_leI (a := 0) (b := k) (by omega) hk).mpr (Nat.zero_le _)
    exact i_le.mp h0))).2
  rw [cn_nI hk] at this
  exact this.symm
theorem n_lt_iff {x : Int32} {R : Nat} (hR : R < 2147483648) : n_lt x R ↔ (¬ x < 0 ∧ x < nI R) := by
  constructor
  · rintro ⟨h1, h2⟩
    have e : x.toInt = (cn x : Int) := by rw [h1, cn_nI (by omega), toI_nI (by omega)]
    rw [i_lt, i_lt, toI_nI hR, e]
    have : (0 : Int32).toInt = 0 := rfl
    rw [this]
    omega
  · rintro ⟨h1, h2⟩
    have h0 : (0 : Int32) ≤ x := Int32.not_lt.mp h1
    obtain ⟨h3, h4⟩ := cn_of h0
    refine ⟨h3, ?_⟩
    rw [i_lt, toI_nI hR] at h2
    omega
theorem n_rd_iff {x : Int32} {K : Nat} (hK : K < 2147483647) : n_rd x K ↔ (¬ x < 1 ∧ x ≤ nI K) := by
  have o1 : (1 : Int32).toInt = 1 := rfl
  constructor
  · rintro ⟨h1, h2⟩
    have e : x.toInt = (rn x + 1 : Nat) := by rw [h1]; rw [show rn (nI (rn x + 1)) = rn x by rw [← h1]]; exact toI_nI (by omega)
    rw [i_lt, i_le, toI_nI (by omega), e, o1]
    omega
  · rintro ⟨h1, h2⟩
    rw [i_lt, o1] at h1
    have h0 : (0 : Int32) ≤ x := i_le.mpr (by show (0 : Int) ≤ _; omega)
    obtain ⟨h3, h4⟩ := cn_of h0
    rw [i_le, toI_nI (by omega)] at h2
    have h5 : rn x + 1 = cn x := by unfold rn; omega
    exact ⟨by rw [h5]; exact h3, by omega⟩
theorem bt_nat {v lo hi : Int32} (H : Nat) (h : n_bt v lo hi) (h0 : 0 ≤ lo) (hH : hi = nI H) (hb : H < 2147483648) : n_lt v (H + 1) := by
  have h1 : (0 : Int32) ≤ v := Int32.le_trans h0 h.1
  obtain ⟨h3, h4⟩ := cn_of h1
  have h5 := h.2
  rw [hH, i_le, toI_nI hb] at h5
  exact ⟨h3, by omega⟩
theorem shl_nat {C : Nat} (hC : C ≤ 10) : (1 : Int32) <<< (nI C &&& 31) = nI (2 ^ C) := by
  have : ∀ C, C ≤ 10 → (1 : Int32) <<< (nI C &&& 31) = nI (2 ^ C) := by decide +kernel
  exact this C hC
theorem pow10 {C : Nat} (hC : C ≤ 10) : 2 ^ C ≤ 1024 := Nat.pow_le_pow_right (n := 2) (by omega) hC
theorem pow6 {C : Nat} (hC : C ≤ 6) : 2 ^ C ≤ 64 := Nat.pow_le_pow_right (n := 2) (by omega) hC
/-! ===== the needs ===== -/
theorem ct_X7_needBetween_ok {l : Launch} {h : XH} (hl : l.stackTraces = false) {v lo hi : Int32} (hn : n_bt v lo hi) : XEx l m_X7_needBetween 0 0 0 [.int v, .int lo, .int hi] (h) none (h) := by
  refine XMet.of hl rfl rfl (Nat.le_of_ble_eq_true rfl) (fun Y O hh hQ => ?_)
  skip
  show SW Y 0 0 (h) 0 [.int v, .int lo, .int hi] []
  refine sw_iload_n O (xx_dt dd_X7_needBetween 0 rfl) rfl ?_
  refine sw_iload_n O (xx_dt dd_X7_needBetween 1 rfl) rfl ?_
  refine sw_icmp_lt (tgt := 10) O (xx_dt dd_X7_needBetween 2 rfl) (by decide) (fun q1 => ?_) (fun q1 => ?_)
  · exact absurd (hn) (fun e => Int32.not_lt.mpr e.1 q1)
  · refine sw_iload_n O (xx_dt dd_X7_needBetween 3 rfl) rfl ?_
    refine sw_iload_n O (xx_dt dd_X7_needBetween 4 rfl) rfl ?_
    refine sw_icmp_le (tgt := 21) O (xx_dt dd_X7_needBetween 5 rfl) (by decide) (fun q2 => ?_) (fun q2 => ?_)
    · exact sw_ret O (xx_dt dd_X7_needBetween 11 rfl) rfl (by rw [hQ]; exact ⟨rfl, rfl⟩)
    · exact absurd (hn) (fun e => q2 e.2)
theorem ct_X7_needBetween_no {l : Launch} {h : XH} (hl : l.stackTraces = false) {v lo hi : Int32} (hn : ¬ n_bt v lo hi) : XEo l m_X7_needBetween 6 1 6 [.int v, .int lo, .int hi] (h) (.inr eIAE) (h) := by
  refine XMet.of hl rfl rfl (Nat.le_of_ble_eq_true rfl) (fun Y O hh hQ => ?_)
  skip
  show SW Y 1 6 (h) 0 [.int v, .int lo, .int hi] []
  refine sw_iload_n O (xx_dt dd_X7_needBetween 0 rfl) rfl ?_
  refine sw_iload_n O (xx_dt dd_X7_needBetween 1 rfl) rfl ?_
  refine sw_icmp_lt (tgt := 10) O (xx_dt dd_X7_needBetween 2 rfl) (by decide) (fun q1 => ?_) (fun q1 => ?_)
  · exact sw_throwW (k := 0) (n := 0) O ex_IAE th_X7_needBetween_10 (xx_dt dd_X7_needBetween 6 rfl) (xx_dt dd_X7_needBetween 7 rfl) (xx_dt dd_X7_needBetween 8 rfl) (xx_dt dd_X7_needBetween 9 rfl) (xx_dt dd_X7_needBetween 10 rfl) (by decide) (by decide) (by rw [hQ]; exact ⟨rfl, rfl⟩)
  · refine sw_iload_n O (xx_dt dd_X7_needBetween 3 rfl) rfl ?_
    refine sw_iload_n O (xx_dt dd_X7_needBetween 4 rfl) rfl ?_
    refine sw_icmp_le (tgt := 21) O (xx_dt dd_X7_needBetween 5 rfl) (by decide) (fun q2 => ?_) (fun q2 => ?_)
    · exact absurd (⟨Int32.not_lt.mp q1, q2⟩) hn
    · exact sw_throwW (k := 0) (n := 0) O ex_IAE th_X7_needBetween_10 (xx_dt dd_X7_needBetween 6 rfl) (xx_dt dd_X7_needBetween 7 rfl) (xx_dt dd_X7_needBetween 8 rfl) (xx_dt dd_X7_needBetween 9 rfl) (xx_dt dd_X7_needBetween 10 rfl) (by decide) (by decide) (by rw [hQ]; exact ⟨rfl, rfl⟩)
theorem ct_X7_needRegion_ok {l : Launch} {h : XH} (hl : l.stackTraces = false) {σ : XS9} {R : Nat} (hR : σ 1001 4 = nI R) (hR5 : R ≤ 5)  {x : Int32} (hn : n_lt x R) : XEx l m_X7_needRegion 0 0 0 [.ref 1000, .int x] (setC σ h) none (setC σ h) := by
  refine XMet.of hl rfl rfl (Nat.le_of_ble_eq_true rfl) (fun Y O hh hQ => ?_)
  have hi := n_lt_iff (x := x) (R := R) (by omega)
  show SW Y 0 0 (setC σ h) 0 [.ref 1000, .int x] []
  refine sw_iload_n O (xx_dt dd_X7_needRegion 0 rfl) rfl ?_
  refine sw_if_lt (tgt := 15) O (xx_dt dd_X7_needRegion 1 rfl) (by decide) (fun q1 => ?_) (fun q1 => ?_)
  · exact absurd (hi.mp hn) (fun e => e.1 q1)
  · refine sw_iload_n O (xx_dt dd_X7_needRegion 2 rfl) rfl ?_
    refine sw_aload_n O (xx_dt dd_X7_needRegion 3 rfl) rfl ?_
    refine sw_get (v := .ref 1001) O (xx_dt dd_X7_needRegion 4 rfl) cl_X7 fl_X7_12 (ly_1000 σ h) (by decide) rfl ?_
    refine sw_get (v := .int (nI R)) O (xx_dt dd_X7_needRegion 5 rfl) cl_X6 fl_X7_69 (ly_1001 σ h) (by decide) (congrArg Value.int hR) ?_
    refine sw_icmp_lt (tgt := 26) O (xx_dt dd_X7_needRegion 6 rfl) (by decide) (fun q2 => ?_) (fun q2 => ?_)
    · exact sw_ret O (xx_dt dd_X7_needRegion 12 rfl) rfl (by rw [hQ]; exact ⟨rfl, rfl⟩)
    · exact absurd (hi.mp hn) (fun e => q2 e.2)
theorem ct_X7_needRegion_no {l : Launch} {h : XH} (hl : l.stackTraces = false) {σ : XS9} {R : Nat} (hR : σ 1001 4 = nI R) (hR5 : R ≤ 5)  {x : Int32} (hn : ¬ n_lt x R) : XEo l m_X7_needRegion 6 1 6 [.ref 1000, .int x] (setC σ h) (.inr eIOB) (setC σ h) := by
  refine XMet.of hl rfl rfl (Nat.le_of_ble_eq_true rfl) (fun Y O hh hQ => ?_)
  have hi := n_lt_iff (x := x) (R := R) (by omega)
  show SW Y 1 6 (setC σ h) 0 [.ref 1000, .int x] []
  refine sw_iload_n O (xx_dt dd_X7_needRegion 0 rfl) rfl ?_
  refine sw_if_lt (tgt := 15) O (xx_dt dd_X7_needRegion 1 rfl) (by decide) (fun q1 => ?_) (fun q1 => ?_)
  · exact sw_throwW (k := 0) (n := 0) O ex_IOB th_X7_needRegion_15 (xx_dt dd_X7_needRegion 7 rfl) (xx_dt dd_X7_needRegion 8 rfl) (xx_dt dd_X7_needRegion 9 rfl) (xx_dt dd_X7_needRegion 10 rfl) (xx_dt dd_X7_needRegion 11 rfl) (by decide) (by decide) (by rw [hQ]; exact ⟨rfl, rfl⟩)
  · refine sw_iload_n O (xx_dt dd_X7_needRegion 2 rfl) rfl ?_
    refine sw_aload_n O (xx_dt dd_X7_needRegion 3 rfl) rfl ?_
    refine sw_get (v := .ref 1001) O (xx_dt dd_X7_needRegion 4 rfl) cl_X7 fl_X7_12 (ly_1000 σ h) (by decide) rfl ?_
    refine sw_get (v := .int (nI R)) O (xx_dt dd_X7_needRegion 5 rfl) cl_X6 fl_X7_69 (ly_1001 σ h) (by decide) (congrArg Value.int hR) ?_
    refine sw_icmp_lt (tgt := 26) O (xx_dt dd_X7_needRegion 6 rfl) (by decide) (fun q2 => ?_) (fun q2 => ?_)
    · exact absurd (hi.mpr ⟨q1, q2⟩) hn
    · exact sw_throwW (k := 0) (n := 0) O ex_IOB th_X7_needRegion_15 (xx_dt dd_X7_needRegion 7 rfl) (xx_dt dd_X7_needRegion 8 rfl) (xx_dt dd_X7_needRegion 9 rfl) (xx_dt dd_X7_needRegion 10 rfl) (xx_dt dd_X7_needRegion 11 rfl) (by decide) (by decide) (by rw [hQ]; exact ⟨rfl, rfl⟩)
theorem ct_X7_needBidder_ok {l : Launch} {h : XH} (hl : l.stackTraces = false) {σ : XS9} {B : Nat} (hB : σ 1001 9 = nI B) (hB6 : B ≤ 6)  {x : Int32} (hn : n_lt x B) : XEx l m_X7_needBidder 0 0 0 [.ref 1000, .int x] (setC σ h) none (setC σ h) := by
  refine XMet.of hl rfl rfl (Nat.le_of_ble_eq_true rfl) (fun Y O hh hQ => ?_)
  have hi := n_lt_iff (x := x) (R := B) (by omega)
  show SW Y 0 0 (setC σ h) 0 [.ref 1000, .int x] []
  refine sw_iload_n O (xx_dt dd_X7_needBidder 0 rfl) rfl ?_
  refine sw_if_lt (tgt := 15) O (xx_dt dd_X7_needBidder 1 rfl) (by decide) (fun q1 => ?_) (fun q1 => ?_)
  · exact absurd (hi.mp hn) (fun e => e.1 q1)
  · refine sw_iload_n O (xx_dt dd_X7_needBidder 2 rfl) rfl ?_
    refine sw_aload_n O (xx_dt dd_X7_needBidder 3 rfl) rfl ?_
    refine sw_get (v := .ref 1001) O (xx_dt dd_X7_needBidder 4 rfl) cl_X7 fl_X7_12 (ly_1000 σ h) (by decide) rfl ?_
    refine sw_get (v := .int (nI B)) O (xx_dt dd_X7_needBidder 5 rfl) cl_X6 fl_X7_100 (ly_1001 σ h) (by decide) (congrArg Value.int hB) ?_
    refine sw_icmp_lt (tgt := 26) O (xx_dt dd_X7_needBidder 6 rfl) (by decide) (fun q2 => ?_) (fun q2 => ?_)
    · exact sw_ret O (xx_dt dd_X7_needBidder 12 rfl) rfl (by rw [hQ]; exact ⟨rfl, rfl⟩)
    · exact absurd (hi.mp hn) (fun e => q2 e.2)
theorem ct_X7_needBidder_no {l : Launch} {h : XH} (hl : l.stackTraces = false) {σ : XS9} {B : Nat} (hB : σ 1001 9 = nI B) (hB6 : B ≤ 6)  {x : Int32} (hn : ¬ n_lt x B) : XEo l m_X7_needBidder 6 1 6 [.ref 1000, .int x] (setC σ h) (.inr eIOB) (setC σ h) := by
  refine XMet.of hl rfl rfl (Nat.le_of_ble_eq_true rfl) (fun Y O hh hQ => ?_)
  have hi := n_lt_iff (x := x) (R := B) (by omega)
  show SW Y 1 6 (setC σ h) 0 [.ref 1000, .int x] []
  refine sw_iload_n O (xx_dt dd_X7_needBidder 0 rfl) rfl ?_
  refine sw_if_lt (tgt := 15) O (xx_dt dd_X7_needBidder 1 rfl) (by decide) (fun q1 => ?_) (fun q1 => ?_)
  · exact sw_throwW (k := 0) (n := 0) O ex_IOB th_X7_needBidder_15 (xx_dt dd_X7_needBidder 7 rfl) (xx_dt dd_X7_needBidder 8 rfl) (xx_dt dd_X7_needBidder 9 rfl) (xx_dt dd_X7_needBidder 10 rfl) (xx_dt dd_X7_needBidder 11 rfl) (by decide) (by decide) (by rw [hQ]; exact ⟨rfl, rfl⟩)
  · refine sw_iload_n O (xx_dt dd_X7_needBidder 2 rfl) rfl ?_
    refine sw_aload_n O (xx_dt dd_X7_needBidder 3 rfl) rfl ?_
    refine sw_get (v := .ref 1001) O (xx_dt dd_X7_needBidder 4 rfl) cl_X7 fl_X7_12 (ly_1000 σ h) (by decide) rfl ?_
    refine sw_get (v := .int (nI B)) O (xx_dt dd_X7_needBidder 5 rfl) cl_X6 fl_X7_100 (ly_1001 σ h) (by decide) (congrArg Value.int hB) ?_
    refine sw_icmp_lt (tgt := 26) O (xx_dt dd_X7_needBidder 6 rfl) (by decide) (fun q2 => ?_) (fun q2 => ?_)
    · exact absurd (hi.mpr ⟨q1, q2⟩) hn
    · exact sw_throwW (k := 0) (n := 0) O ex_IOB th_X7_needBidder_15 (xx_dt dd_X7_needBidder 7 rfl) (xx_dt dd_X7_needBidder 8 rfl) (xx_dt dd_X7_needBidder 9 rfl) (xx_dt dd_X7_needBidder 10 rfl) (xx_dt dd_X7_needBidder 11 rfl) (by decide) (by decide) (by rw [hQ]; exact ⟨rfl, rfl⟩)
theorem ct_X7_needStation_ok {l : Launch} {h : XH} (hl : l.stackTraces = false) {σ : XS9} {C : Nat} (hC : σ 1006 1 = nI C) (hC10 : C ≤ 10)  {x : Int32} (hn : n_lt x C) : XEx l m_X7_needStation 0 0 0 [.ref 1000, .int x] (setC σ h) none (setC σ h) := by
  refine XMet.of hl rfl rfl (Nat.le_of_ble_eq_true rfl) (fun Y O hh hQ => ?_)
  have hi := n_lt_iff (x := x) (R := C) (by omega)
  show SW Y 0 0 (setC σ h) 0 [.ref 1000, .int x] []
  refine sw_iload_n O (xx_dt dd_X7_needStation 0 rfl) rfl ?_
  refine sw_if_lt (tgt := 15) O (xx_dt dd_X7_needStation 1 rfl) (by decide) (fun q1 => ?_) (fun q1 => ?_)
  · exact absurd (hi.mp hn) (fun e => e.1 q1)
  · refine sw_iload_n O (xx_dt dd_X7_needStation 2 rfl) rfl ?_
    refine sw_aload_n O (xx_dt dd_X7_needStation 3 rfl) rfl ?_
    refine sw_get (v := .ref 1006) O (xx_dt dd_X7_needStation 4 rfl) cl_X7 fl_X7_50 (ly_1000 σ h) (by decide) rfl ?_
    refine sw_get (v := .int (nI C)) O (xx_dt dd_X7_needStation 5 rfl) cl_X5 fl_X7_215 (ly_1006 σ h) (by decide) (congrArg Value.int hC) ?_
    refine sw_icmp_lt (tgt := 26) O (xx_dt dd_X7_needStation 6 rfl) (by decide) (fun q2 => ?_) (fun q2 => ?_)
    · exact sw_ret O (xx_dt dd_X7_needStation 12 rfl) rfl (by rw [hQ]; exact ⟨rfl, rfl⟩)
    · exact absurd (hi.mp hn) (fun e => q2 e.2)
theorem ct_X7_needStation_no {l : Launch} {h : XH} (hl : l.stackTraces = false) {σ : XS9} {C : Nat} (hC : σ 1006 1 = nI C) (hC10 : C ≤ 10)  {x : Int32} (hn : ¬ n_lt x C) : XEo l m_X7_needStation 6 1 6 [.ref 1000, .int x] (setC σ h) (.inr eIOB) (setC σ h) := by
  refine XMet.of hl rfl rfl (Nat.le_of_ble_eq_true rfl) (fun Y O hh hQ => ?_)
  have hi := n_lt_iff (x := x) (R := C) (by omega)
  show SW Y 1 6 (setC σ h) 0 [.ref 1000, .int x] []
  refine sw_iload_n O (xx_dt dd_X7_needStation 0 rfl) rfl ?_
  refine sw_if_lt (tgt := 15) O (xx_dt dd_X7_needStation 1 rfl) (by decide) (fun q1 => ?_) (fun q1 => ?_)
  · exact sw_throwW (k := 0) (n := 0) O ex_IOB th_X7_needStation_15 (xx_dt dd_X7_needStation 7 rfl) (xx_dt dd_X7_needStation 8 rfl) (xx_dt dd_X7_needStation 9 rfl) (xx_dt dd_X7_needStation 10 rfl) (xx_dt dd_X7_needStation 11 rfl) (by decide) (by decide) (by rw [hQ]; exact ⟨rfl, rfl⟩)
  · refine sw_iload_n O (xx_dt dd_X7_needStation 2 rfl) rfl ?_
    refine sw_aload_n O (xx_dt dd_X7_needStation 3 rfl) rfl ?_
    refine sw_get (v := .ref 1006) O (xx_dt dd_X7_needStation 4 rfl) cl_X7 fl_X7_50 (ly_1000 σ h) (by decide) rfl ?_
    refine sw_get (v := .int (nI C)) O (xx_dt dd_X7_needStation 5 rfl) cl_X5 fl_X7_215 (ly_1006 σ h) (by decide) (congrArg Value.int hC) ?_
    refine sw_icmp_lt (tgt := 26) O (xx_dt dd_X7_needStation 6 rfl) (by decide) (fun q2 => ?_) (fun q2 => ?_)
    · exact absurd (hi.mpr ⟨q1, q2⟩) hn
    · exact sw_throwW (k := 0) (n := 0) O ex_IOB th_X7_needStation_15 (xx_dt dd_X7_needStation 7 rfl) (xx_dt dd_X7_needStation 8 rfl) (xx_dt dd_X7_needStation 9 rfl) (xx_dt dd_X7_needStation 10 rfl) (xx_dt dd_X7_needStation 11 rfl) (by decide) (by decide) (by rw [hQ]; exact ⟨rfl, rfl⟩)
theorem ct_X7_needRound_ok {l : Launch} {h : XH} (hl : l.stackTraces = false) {σ : XS9} {K : Nat} (hK : σ 2000 9 = nI K) (hK60 : K ≤ 60)  {x : Int32} (hn : n_rd x K) : XEx l m_X7_needRound 0 0 0 [.ref 1000, .int x] (setC σ h) none (setC σ h) := by
  refine XMet.of hl rfl rfl (Nat.le_of_ble_eq_true rfl) (fun Y O hh hQ => ?_)
  have hi := n_rd_iff (x := x) (K := K) (by omega)
  show SW Y 0 0 (setC σ h) 0 [.ref 1000, .int x] []
  refine sw_iload_n O (xx_dt dd_X7_needRound 0 rfl) rfl ?_
  refine sw_iconst (x := 1) O (xx_dt dd_X7_needRound 1 rfl) (by decide) ?_
  refine sw_icmp_lt (tgt := 16) O (xx_dt dd_X7_needRound 2 rfl) (by decide) (fun q1 => ?_) (fun q1 => ?_)
  · exact absurd (hi.mp hn) (fun e => e.1 q1)
  · refine sw_iload_n O (xx_dt dd_X7_needRound 3 rfl) rfl ?_
    refine sw_aload_n O (xx_dt dd_X7_needRound 4 rfl) rfl ?_
    refine sw_get (v := .ref 2000) O (xx_dt dd_X7_needRound 5 rfl) cl_X7 fl_X7_19 (ly_1000 σ h) (by decide) rfl ?_
    refine sw_get (v := .int (nI K)) O (xx_dt dd_X7_needRound 6 rfl) cl_X1 fl_X7_379 (lk_0 σ h (.inl rfl)) (by decide) (congrArg Value.int hK) ?_
    refine sw_icmp_le (tgt := 27) O (xx_dt dd_X7_needRound 7 rfl) (by decide) (fun q2 => ?_) (fun q2 => ?_)
    · exact sw_ret O (xx_dt dd_X7_needRound 13 rfl) rfl (by rw [hQ]; exact ⟨rfl, rfl⟩)
    · exact absurd (hi.mp hn) (fun e => q2 e.2)
theorem ct_X7_needRound_no {l : Launch} {h : XH} (hl : l.stackTraces = false) {σ : XS9} {K : Nat} (hK : σ 2000 9 = nI K) (hK60 : K ≤ 60)  {x : Int32} (hn : ¬ n_rd x K) : XEo l m_X7_needRound 6 1 6 [.ref 1000, .int x] (setC σ h) (.inr eIOB) (setC σ h) := by
  refine XMet.of hl rfl rfl (Nat.le_of_ble_eq_true rfl) (fun Y O hh hQ => ?_)
  have hi := n_rd_iff (x := x) (K := K) (by omega)
  show SW Y 1 6 (setC σ h) 0 [.ref 1000, .int x] []
  refine sw_iload_n O (xx_dt dd_X7_needRound 0 rfl) rfl ?_
  refine sw_iconst (x := 1) O (xx_dt dd_X7_needRound 1 rfl) (by decide) ?_
  refine sw_icmp_lt (tgt := 16) O (xx_dt dd_X7_needRound 2 rfl) (by decide) (fun q1 => ?_) (fun q1 => ?_)
  · exact sw_throwW (k := 0) (n := 0) O ex_IOB th_X7_needRound_16 (xx_dt dd_X7_needRound 8 rfl) (xx_dt dd_X7_needRound 9 rfl) (xx_dt dd_X7_needRound 10 rfl) (xx_dt dd_X7_needRound 11 rfl) (xx_dt dd_X7_needRound 12 rfl) (by decide) (by decide) (by rw [hQ]; exact ⟨rfl, rfl⟩)
  · refine sw_iload_n O (xx_dt dd_X7_needRound 3 rfl) rfl ?_
    refine sw_aload_n O (xx_dt dd_X7_needRound 4 rfl) rfl ?_
    refine sw_get (v := .ref 2000) O (xx_dt dd_X7_needRound 5 rfl) cl_X7 fl_X7_19 (ly_1000 σ h) (by decide) rfl ?_
    refine sw_get (v := .int (nI K)) O (xx_dt dd_X7_needRound 6 rfl) cl_X1 fl_X7_379 (lk_0 σ h (.inl rfl)) (by decide) (congrArg Value.int hK) ?_
    refine sw_icmp_le (tgt := 27) O (xx_dt dd_X7_needRound 7 rfl) (by decide) (fun q2 => ?_) (fun q2 => ?_)
    · exact absurd (hi.mpr ⟨q1, q2⟩) hn
    · exact sw_throwW (k := 0) (n := 0) O ex_IOB th_X7_needRound_16 (xx_dt dd_X7_needRound 8 rfl) (xx_dt dd_X7_needRound 9 rfl) (xx_dt dd_X7_needRound 10 rfl) (xx_dt dd_X7_needRound 11 rfl) (xx_dt dd_X7_needRound 12 rfl) (by decide) (by decide) (by rw [hQ]; exact ⟨rfl, rfl⟩)
theorem ct_X7_needStage_ok {l : Launch} {h : XH} (hl : l.stackTraces = false) {σ : XS9} {x : Int32} (hn : σ 1000 7 = x) : XEx l m_X7_needStage 0 0 0 [.ref 1000, .int x] (setC σ h) none (setC σ h) := by
  refine XMet.of hl rfl rfl (Nat.le_of_ble_eq_true rfl) (fun Y O hh hQ => ?_)
  skip
  show SW Y 0 0 (setC σ h) 0 [.ref 1000, .int x] []
  refine sw_aload_n O (xx_dt dd_X7_needStage 0 rfl) rfl ?_
  refine sw_get (v := .int (σ 1000 7)) O (xx_dt dd_X7_needStage 1 rfl) cl_X7 fl_X7_54 (ly_1000 σ h) (by decide) rfl ?_
  refine sw_iload_n O (xx_dt dd_X7_needStage 2 rfl) rfl ?_
  refine sw_icmp_eq (tgt := 19) O (xx_dt dd_X7_needStage 3 rfl) (by decide) (fun q1 => ?_) (fun q1 => ?_)
  · exact sw_ret O (xx_dt dd_X7_needStage 9 rfl) rfl (by rw [hQ]; exact ⟨rfl, rfl⟩)
  · exact absurd (hn) (q1)
theorem ct_X7_needStage_no {l : Launch} {h : XH} (hl : l.stackTraces = false) {σ : XS9} {x : Int32} (hn : ¬ σ 1000 7 = x) : XEo l m_X7_needStage 6 1 6 [.ref 1000, .int x] (setC σ h) (.inr eISE) (setC σ h) := by
  refine XMet.of hl rfl rfl (Nat.le_of_ble_eq_true rfl) (fun Y O hh hQ => ?_)
  skip
  show SW Y 1 6 (setC σ h) 0 [.ref 1000, .int x] []
  refine sw_aload_n O (xx_dt dd_X7_needStage 0 rfl) rfl ?_
  refine sw_get (v := .int (σ 1000 7)) O (xx_dt dd_X7_needStage 1 rfl) cl_X7 fl_X7_54 (ly_1000 σ h) (by decide) rfl ?_
  refine sw_iload_n O (xx_dt dd_X7_needStage 2 rfl) rfl ?_
  refine sw_icmp_eq (tgt := 19) O (xx_dt dd_X7_needStage 3 rfl) (by decide) (fun q1 => ?_) (fun q1 => ?_)
  · exact absurd (q1) hn
  · exact sw_throwW (k := 0) (n := 0) O ex_ISE th_X7_needStage_8 (xx_dt dd_X7_needStage 4 rfl) (xx_dt dd_X7_needStage 5 rfl) (xx_dt dd_X7_needStage 6 rfl) (xx_dt dd_X7_needStage 7 rfl) (xx_dt dd_X7_needStage 8 rfl) (by decide) (by decide) (by rw [hQ]; exact ⟨rfl, rfl⟩)
theorem ct_X7_needSet_ok {l : Launch} {h : XH} (hl : l.stackTraces = false) {C : Nat} (hC10 : C ≤ 10) {x : Int32} (hn : n_lt x (2 ^ C)) : XEx l m_X7_needSet 0 0 0 [.int x, .int (nI C)] (h) none (h) := by
  refine XMet.of hl rfl rfl (Nat.le_of_ble_eq_true rfl) (fun Y O hh hQ => ?_)
  have hi := n_lt_iff (x := x) (R := 2 ^ C) (by have := pow10 hC10; omega)
  show SW Y 0 0 (h) 0 [.int x, .int (nI C)] []
  refine sw_iload_n O (xx_dt dd_X7_needSet 0 rfl) rfl ?_
  refine sw_if_lt (tgt := 11) O (xx_dt dd_X7_needSet 1 rfl) (by decide) (fun q1 => ?_) (fun q1 => ?_)
  · exact absurd (hi.mp hn) (fun e => e.1 q1)
  · refine sw_iload_n O (xx_dt dd_X7_needSet 2 rfl) rfl ?_
    refine sw_iconst (x := 1) O (xx_dt dd_X7_needSet 3 rfl) (by decide) ?_
    refine sw_iload_n O (xx_dt dd_X7_needSet 4 rfl) rfl ?_
    refine sw_ishl O (xx_dt dd_X7_needSet 5 rfl) ?_
    refine sw_icmp_lt (tgt := 22) O (xx_dt dd_X7_needSet 6 rfl) (by decide) (fun q2 => ?_) (fun q2 => ?_)
    · exact sw_ret O (xx_dt dd_X7_needSet 12 rfl) rfl (by rw [hQ]; exact ⟨rfl, rfl⟩)
    · exact absurd (hi.mp hn) (fun e => q2 (by rw [shl_nat hC10]; exact e.2))
theorem ct_X7_needSet_no {l : Launch} {h : XH} (hl : l.stackTraces = false) {C : Nat} (hC10 : C ≤ 10) {x : Int32} (hn : ¬ n_lt x (2 ^ C)) : XEo l m_X7_needSet 6 1 6 [.int x, .int (nI C)] (h) (.inr eIAE) (h) := by
  refine XMet.of hl rfl rfl (Nat.le_of_ble_eq_true rfl) (fun Y O hh hQ => ?_)
  have hi := n_lt_iff (x := x) (R := 2 ^ C) (by have := pow10 hC10; omega)
  show SW Y 1 6 (h) 0 [.int x, .int (nI C)] []
  refine sw_iload_n O (xx_dt dd_X7_needSet 0 rfl) rfl ?_
  refine sw_if_lt (tgt := 11) O (xx_dt dd_X7_needSet 1 rfl) (by decide) (fun q1 => ?_) (fun q1 => ?_)
  · exact sw_throwW (k := 0) (n := 0) O ex_IAE th_X7_needSet_11 (xx_dt dd_X7_needSet 7 rfl) (xx_dt dd_X7_needSet 8 rfl) (xx_dt dd_X7_needSet 9 rfl) (xx_dt dd_X7_needSet 10 rfl) (xx_dt dd_X7_needSet 11 rfl) (by decide) (by decide) (by rw [hQ]; exact ⟨rfl, rfl⟩)
  · refine sw_iload_n O (xx_dt dd_X7_needSet 2 rfl) rfl ?_
    refine sw_iconst (x := 1) O (xx_dt dd_X7_needSet 3 rfl) (by decide) ?_
    refine sw_iload_n O (xx_dt dd_X7_needSet 4 rfl) rfl ?_
    refine sw_ishl O (xx_dt dd_X7_needSet 5 rfl) ?_
    refine sw_icmp_lt (tgt := 22) O (xx_dt dd_X7_needSet 6 rfl) (by decide) (fun q2 => ?_) (fun q2 => ?_)
    · exact absurd (hi.mpr ⟨q1, by rw [← shl_nat hC10]; exact q2⟩) hn
    · exact sw_throwW (k := 0) (n := 0) O ex_IAE th_X7_needSet_11 (xx_dt dd_X7_needSet 7 rfl) (xx_dt dd_X7_needSet 8 rfl) (xx_dt dd_X7_needSet 9 rfl) (xx_dt dd_X7_needSet 10 rfl) (xx_dt dd_X7_needSet 11 rfl) (by decide) (by decide) (by rw [hQ]; exact ⟨rfl, rfl⟩)
