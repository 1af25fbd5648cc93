section
/-! ===== contracts whose end, a throw too, is known exactly ===== -/
def XEo (l : Launch) (M : XM) (d k n : Nat) (as : List Value) (h : XH) (o : XO) (h2 : XH) : Prop := XMet l M d k n as h (fun o' g => o' = o ∧ g = h2)
abbrev eIAE : String := "java/lang/IllegalArgumentException"
abbrev eISE : String := "java/lang/IllegalStateException"
abbrev eIOB : String := "java/lang/IndexOutOfBoundsException"
def xoi : Int32 ⊕ String → XO | .inl x => .inl (some (.int x)) | .inr E => .inr E
def xol : Int64 ⊕ String → XO | .inl x => .inl (some (.long x)) | .inr E => .inr E
def xov : Unit ⊕ String → XO | .inl _ => .inl none | .inr E => .inr E
section
variable {Y : XY} {M : XM} {l : Launch} {d k n : Nat} {h : XH} {pc : Nat} {ls st : List Value}
theorem sw_callVt {M' : XM} {d' k' n' idx ci N b : Nat} {f : Nat → Value} {C E : String} {T : u_T} {ty : Nat → FieldType} {as stk : List Value} {h2 : XH} (O : xx_O Y M l d) (hM : XEo l M' d' k' n' (.ref b :: as) h (.inr E) h2) (Ec : xx_ce M') (hl : xx_ml M.2.2.2.2.1 idx M'.1) (hsel : Cond.instanceMethod M'.1 ∈ xx_gws ∧ Cond.selects M'.1.cls M'.1 M'.1 ∈ xx_gws)
    (K : xx_cl ci C T N ty) (hC : C = M'.1.cls) (hb : h b = some (ci, N, f)) (hd : decode M.2.1 pc = .ok (.invokevirtual idx, 3)) (hdd : d' + 1 ≤ d) (hn : as.length = M'.2.2.2.2.2) (hs : stk = as.reverse ++ .ref b :: st) (hc : (st.map fun v => v.category).sum ≤ 8)
    (hQ : xy_Q Y (.inr E) h2) : SW Y (k + k') (n + n') h pc ls stk :=
  sw_callV O hM Ec hl hsel K hC hb hd hdd hn hs hc (fun v' h' q _ => by obtain ⟨e1, -⟩ := q; cases e1) (fun E h' q => by obtain ⟨e1, rfl⟩ := q; cases e1; exact hQ)
theorem sw_callSt {M' : XM} {d' k' n' idx : Nat} {E : String} {as stk : List Value} {h2 : XH} (O : xx_O Y M l d) (hM : XEo l M' d' k' n' as h (.inr E) h2) (Ec : xx_ce M') (hl : xx_ml M.2.2.2.2.1 idx M'.1) (hst0 : Cond.static M'.1 ∈ xx_gws)
    (hd : decode M.2.1 pc = .ok (.invokestatic idx, 3)) (hdd : d' + 1 ≤ d) (hn : as.length = M'.2.2.2.2.2) (hs : stk = as.reverse ++ st) (hc : (st.map fun v => v.category).sum ≤ 8)
    (hQ : xy_Q Y (.inr E) h2) : SW Y (k + k') (n + n') h pc ls stk :=
  sw_callS O hM Ec hl hst0 hd hdd hn hs hc (fun v' h' q _ => by obtain ⟨e1, -⟩ := q; cases e1) (fun E h' q => by obtain ⟨e1, rfl⟩ := q; cases e1; exact hQ)
theorem sw_lsE {ls2 : List Value} (e : ls2 = ls) (kk : SW Y k n h pc ls2 st) : SW Y k n h pc ls st := by subst e; exact kk
end
/-! ===== numbers as they come in ===== -/
theorem cn_nI {k : Nat} (hk : k < 2147483648) : cn (nI k) = k := nI_clamp hk
abbrev n_bt (v lo hi : Int32) : Prop := lo ≤ v ∧ v ≤ hi
abbrev n_lt (x : Int32) (R : Nat) : Prop := x = nI (cn x) ∧ cn x < R
def rn (x : Int32) : Nat := cn x - 1
abbrev n_rd (x : Int32) (K : Nat) : Prop := x = nI (rn x + 1) ∧ rn x < K
theorem cn_of {x : Int32} (h : 0 ≤ x) : x = nI (cn x) ∧ (cn x : Int) = x.toInt := by
  have h1 : (0 : Int) ≤ x.toInt := by have := Int32.le_iff_toInt_le.mp h; simpa using this
  have h2 : (cn x : Int) = x.toInt := by
    show ((x.toInt.toNat : Nat) : Int) = x.toInt
    omega
  refine ⟨?_, h2⟩
  have h3 : nI (cn x) = Int32.ofInt (cn x : Int) := rfl
  rw [h3, h2]
  exact (Int32.ofInt_toInt x).symm
theorem i_lt {x y : Int32} : x < y ↔ x.toInt < y.toInt := Int32.lt_iff_toInt_lt
theorem i_le {x y : Int32} : x ≤ y ↔ x.toInt ≤ y.toInt := Int32.le_iff_toInt_le
theorem toI_nI {k : Nat} (hk : k < 2147483648) : (nI k).toInt = (k : Int) := by
  have := (cn_of (x := nI k) (i_le.mpr (by
    have h0 := (nI_leI (a := 0) (b := k) (by omega) hk).mpr (Nat.zero_le _)
    exact i_le.mp h0))).2
  rw [cn_nI hk] at this
  exact this.symm
theorem n_lt_iff {x : Int32} {R : Nat} (hR : R < 2147483648) : n_lt x R ↔ (¬ x < 0 ∧ x < nI R) := by
  constructor
  · rintro ⟨h1, h2⟩
    have e : x.toInt = (cn x : Int) := by rw [h1, cn_nI (by omega), toI_nI (by omega)]
    rw [i_lt, i_lt, toI_nI hR, e]
    have : (0 : Int32).toInt = 0 := rfl
    rw [this]
    omega
  · rintro ⟨h1, h2⟩
    have h0 : (0 : Int32) ≤ x := Int32.not_lt.mp h1
    obtain ⟨h3, h4⟩ := cn_of h0
    refine ⟨h3, ?_⟩
    rw [i_lt, toI_nI hR] at h2
    omega
theorem n_rd_iff {x : Int32} {K : Nat} (hK : K < 2147483647) : n_rd x K ↔ (¬ x < 1 ∧ x ≤ nI K) := by
  have o1 : (1 : Int32).toInt = 1 := rfl
  constructor
  · rintro ⟨h1, h2⟩
    have e : x.toInt = (rn x + 1 : Nat) := by rw [h1]; rw [show rn (nI (rn x + 1)) = rn x by rw [← h1]]; exact toI_nI (by omega)
    rw [i_lt, i_le, toI_nI (by omega), e, o1]
    omega
  · rintro ⟨h1, h2⟩
    rw [i_lt, o1] at h1
    have h0 : (0 : Int32) ≤ x := i_le.mpr (by show (0 : Int) ≤ _; omega)
    obtain ⟨h3, h4⟩ := cn_of h0
    rw [i_le, toI_nI (by omega)] at h2
    have h5 : rn x + 1 = cn x := by unfold rn; omega
    exact ⟨by rw [h5]; exact h3, by omega⟩
theorem bt_nat {v lo hi : Int32} (H : Nat) (h : n_bt v lo hi) (h0 : 0 ≤ lo) (hH : hi = nI H) (hb : H < 2147483648) : n_lt v (H + 1) := by
  have h1 : (0 : Int32) ≤ v := Int32.le_trans h0 h.1
  obtain ⟨h3, h4⟩ := cn_of h1
  have h5 := h.2
  rw [hH, i_le, toI_nI hb] at h5
  exact ⟨h3, by omega⟩
theorem shl_nat {C : Nat} (hC : C ≤ 10) : (1 : Int32) <<< (nI C &&& 31) = nI (2 ^ C) := by
  have : ∀ C, C ≤ 10 → (1 : Int32) <<< (nI C &&& 31) = nI (2 ^ C) := by decide +kernel
  exact this C hC
theorem pow10 {C : Nat} (hC : C ≤ 10) : 2 ^ C ≤ 1024 := Nat.pow_le_pow_right (n := 2) (by omega) hC
theorem pow6 {C : Nat} (hC : C ≤ 6) : 2 ^ C ≤ 64 := Nat.pow_le_pow_right (n := 2) (by omega) hC
/-! ===== the needs ===== -/
theorem ct_X7_needBetween_ok {l : Launch} {h : XH} (hl : l.stackTraces = false) {v lo hi : Int32} (hn : n_bt v lo hi) : XEx l m_X7_needBetween 0 0 0 [.int v, .int lo, .int hi] (h) none (h) := by
  refine XMet.of hl rfl rfl (Nat.le_of_ble_eq_true rfl) (fun Y O hh hQ => ?_)
  skip
  show SW Y 0 0 (h) 0 [.int v, .int lo, .int hi] []
  refine sw_iload_n O (xx_dt dd_X7_needBetween 0 rfl) rfl ?_
  refine sw_iload_n O (xx_dt dd_X7_needBetween 1 rfl) rfl ?_
  refine sw_icmp_lt (tgt := 10) O (xx_dt dd_X7_needBetween 2 rfl) (by decide) (fun q1 => ?_) (fun q1 => ?_)
  · exact absurd (hn) (fun e => Int32.not_lt.mpr e.1 q1)
  · refine sw_iload_n O (xx_dt dd_X7_needBetween 3 rfl) rfl ?_
    refine sw_iload_n O (xx_dt dd_X7_needBetween 4 rfl) rfl ?_
    refine sw_icmp_le (tgt := 21) O (xx_dt dd_X7_needBetween 5 rfl) (by decide) (fun q2 => ?_) (fun q2 => ?_)
    · exact sw_ret O (xx_dt dd_X7_needBetween 11 rfl) rfl (by rw [hQ]; exact ⟨rfl, rfl⟩)
    · exact absurd (hn) (fun e => q2 e.2)
theorem ct_X7_needBetween_no {l : Launch} {h : XH} (hl : l.stackTraces = false) {v lo hi : Int32} (hn : ¬ n_bt v lo hi) : XEo l m_X7_needBetween 6 1 6 [.int v, .int lo, .int hi] (h) (.inr eIAE) (h) := by
  refine XMet.of hl rfl rfl (Nat.le_of_ble_eq_true rfl) (fun Y O hh hQ => ?_)
  skip
  show SW Y 1 6 (h) 0 [.int v, .int lo, .int hi] []
  refine sw_iload_n O (xx_dt dd_X7_needBetween 0 rfl) rfl ?_
  refine sw_iload_n O (xx_dt dd_X7_needBetween 1 rfl) rfl ?_
  refine sw_icmp_lt (tgt := 10) O (xx_dt dd_X7_needBetween 2 rfl) (by decide) (fun q1 => ?_) (fun q1 => ?_)
  · exact sw_throwW (k := 0) (n := 0) O ex_IAE th_X7_needBetween_10 (xx_dt dd_X7_needBetween 6 rfl) (xx_dt dd_X7_needBetween 7 rfl) (xx_dt dd_X7_needBetween 8 rfl) (xx_dt dd_X7_needBetween 9 rfl) (xx_dt dd_X7_needBetween 10 rfl) (by decide) (by decide) (by rw [hQ]; exact ⟨rfl, rfl⟩)
  · refine sw_iload_n O (xx_dt dd_X7_needBetween 3 rfl) rfl ?_
    refine sw_iload_n O (xx_dt dd_X7_needBetween 4 rfl) rfl ?_
    refine sw_icmp_le (tgt := 21) O (xx_dt dd_X7_needBetween 5 rfl) (by decide) (fun q2 => ?_) (fun q2 => ?_)
    · exact absurd (⟨Int32.not_lt.mp q1, q2⟩) hn
    · exact sw_throwW (k := 0) (n := 0) O ex_IAE th_X7_needBetween_10 (xx_dt dd_X7_needBetween 6 rfl) (xx_dt dd_X7_needBetween 7 rfl) (xx_dt dd_X7_needBetween 8 rfl) (xx_dt dd_X7_needBetween 9 rfl) (xx_dt dd_X7_needBetween 10 rfl) (by decide) (by decide) (by rw [hQ]; exact ⟨rfl, rfl⟩)
theorem ct_X7_needRegion_ok {l : Launch} {h : XH} (hl : l.stackTraces = false) {σ : XS9} {R : Nat} (hR : σ 1001 4 = nI R) (hR5 : R ≤ 5)  {x : Int32} (hn : n_lt x R) : XEx l m_X7_needRegion 0 0 0 [.ref 1000, .int x] (setC σ h) none (setC σ h) := by
  refine XMet.of hl rfl rfl (Nat.le_of_ble_eq_true rfl) (fun Y O hh hQ => ?_)
  have hi := n_lt_iff (x := x) (R := R) (by omega)
  show SW Y 0 0 (setC σ h) 0 [.ref 1000, .int x] []
  refine sw_iload_n O (xx_dt dd_X7_needRegion 0 rfl) rfl ?_
  refine sw_if_lt (tgt := 15) O (xx_dt dd_X7_needRegion 1 rfl) (by decide) (fun q1 => ?_) (fun q1 => ?_)
  · exact absurd (hi.mp hn) (fun e => e.1 q1)
  · refine sw_iload_n O (xx_dt dd_X7_needRegion 2 rfl) rfl ?_
    refine sw_aload_n O (xx_dt dd_X7_needRegion 3 rfl) rfl ?_
    refine sw_get (v := .ref 1001) O (xx_dt dd_X7_needRegion 4 rfl) cl_X7 fl_X7_12 (ly_1000 σ h) (by decide) rfl ?_
    refine sw_get (v := .int (nI R)) O (xx_dt dd_X7_needRegion 5 rfl) cl_X6 fl_X7_69 (ly_1001 σ h) (by decide) (congrArg Value.int hR) ?_
    refine sw_icmp_lt (tgt := 26) O (xx_dt dd_X7_needRegion 6 rfl) (by decide) (fun q2 => ?_) (fun q2 => ?_)
    · exact sw_ret O (xx_dt dd_X7_needRegion 12 rfl) rfl (by rw [hQ]; exact ⟨rfl, rfl⟩)
    · exact absurd (hi.mp hn) (fun e => q2 e.2)
theorem ct_X7_needRegion_no {l : Launch} {h : XH} (hl : l.stackTraces = false) {σ : XS9} {R : Nat} (hR : σ 1001 4 = nI R) (hR5 : R ≤ 5)  {x : Int32} (hn : ¬ n_lt x R) : XEo l m_X7_needRegion 6 1 6 [.ref 1000, .int x] (setC σ h) (.inr eIOB) (setC σ h) := by
  refine XMet.of hl rfl rfl (Nat.le_of_ble_eq_true rfl) (fun Y O hh hQ => ?_)
  have hi := n_lt_iff (x := x) (R := R) (by omega)
  show SW Y 1 6 (setC σ h) 0 [.ref 1000, .int x] []
  refine sw_iload_n O (xx_dt dd_X7_needRegion 0 rfl) rfl ?_
  refine sw_if_lt (tgt := 15) O (xx_dt dd_X7_needRegion 1 rfl) (by decide) (fun q1 => ?_) (fun q1 => ?_)
  · exact sw_throwW (k := 0) (n := 0) O ex_IOB th_X7_needRegion_15 (xx_dt dd_X7_needRegion 7 rfl) (xx_dt dd_X7_needRegion 8 rfl) (xx_dt dd_X7_needRegion 9 rfl) (xx_dt dd_X7_needRegion 10 rfl) (xx_dt dd_X7_needRegion 11 rfl) (by decide) (by decide) (by rw [hQ]; exact ⟨rfl, rfl⟩)
  · refine sw_iload_n O (xx_dt dd_X7_needRegion 2 rfl) rfl ?_
    refine sw_aload_n O (xx_dt dd_X7_needRegion 3 rfl) rfl ?_
    refine sw_get (v := .ref 1001) O (xx_dt dd_X7_needRegion 4 rfl) cl_X7 fl_X7_12 (ly_1000 σ h) (by decide) rfl ?_
    refine sw_get (v := .int (nI R)) O (xx_dt dd_X7_needRegion 5 rfl) cl_X6 fl_X7_69 (ly_1001 σ h) (by decide) (congrArg Value.int hR) ?_
    refine sw_icmp_lt (tgt := 26) O (xx_dt dd_X7_needRegion 6 rfl) (by decide) (fun q2 => ?_) (fun q2 => ?_)
    · exact absurd (hi.mpr ⟨q1, q2⟩) hn
    · exact sw_throwW (k := 0) (n := 0) O ex_IOB th_X7_needRegion_15 (xx_dt dd_X7_needRegion 7 rfl) (xx_dt dd_X7_needRegion 8 rfl) (xx_dt dd_X7_needRegion 9 rfl) (xx_dt dd_X7_needRegion 10 rfl) (xx_dt dd_X7_needRegion 11 rfl) (by decide) (by decide) (by rw [hQ]; exact ⟨rfl, rfl⟩)
theorem ct_X7_needBidder_ok {l : Launch} {h : XH} (hl : l.stackTraces = false) {σ : XS9} {B : Nat} (hB : σ 1001 9 = nI B) (hB6 : B ≤ 6)  {x : Int32} (hn : n_lt x B) : XEx l m_X7_needBidder 0 0 0 [.ref 1000, .int x] (setC σ h) none (setC σ h) := by
  refine XMet.of hl rfl rfl (Nat.le_of_ble_eq_true rfl) (fun Y O hh hQ => ?_)
  have hi := n_lt_iff (x := x) (R := B) (by omega)
  show SW Y 0 0 (setC σ h) 0 [.ref 1000, .int x] []
  refine sw_iload_n O (xx_dt dd_X7_needBidder 0 rfl) rfl ?_
  refine sw_if_lt (tgt := 15) O (xx_dt dd_X7_needBidder 1 rfl) (by decide) (fun q1 => ?_) (fun q1 => ?_)
  · exact absurd (hi.mp hn) (fun e => e.1 q1)
  · refine sw_iload_n O (xx_dt dd_X7_needBidder 2 rfl) rfl ?_
    refine sw_aload_n O (xx_dt dd_X7_needBidder 3 rfl) rfl ?_
    refine sw_get (v := .ref 1001) O (xx_dt dd_X7_needBidder 4 rfl) cl_X7 fl_X7_12 (ly_1000 σ h) (by decide) rfl ?_
    refine sw_get (v := .int (nI B)) O (xx_dt dd_X7_needBidder 5 rfl) cl_X6 fl_X7_100 (ly_1001 σ h) (by decide) (congrArg Value.int hB) ?_
    refine sw_icmp_lt (tgt := 26) O (xx_dt dd_X7_needBidder 6 rfl) (by decide) (fun q2 => ?_) (fun q2 => ?_)
    · exact sw_ret O (xx_dt dd_X7_needBidder 12 rfl) rfl (by rw [hQ]; exact ⟨rfl, rfl⟩)
    · exact absurd (hi.mp hn) (fun e => q2 e.2)
theorem ct_X7_needBidder_no {l : Launch} {h : XH} (hl : l.stackTraces = false) {σ : XS9} {B : Nat} (hB : σ 1001 9 = nI B) (hB6 : B ≤ 6)  {x : Int32} (hn : ¬ n_lt x B) : XEo l m_X7_needBidder 6 1 6 [.ref 1000, .int x] (setC σ h) (.inr eIOB) (setC σ h) := by
  refine XMet.of hl rfl rfl (Nat.le_of_ble_eq_true rfl) (fun Y O hh hQ => ?_)
  have hi := n_lt_iff (x := x) (R := B) (by omega)
  show SW Y 1 6 (setC σ h) 0 [.ref 1000, .int x] []
  refine sw_iload_n O (xx_dt dd_X7_needBidder 0 rfl) rfl ?_
  refine sw_if_lt (tgt := 15) O (xx_dt dd_X7_needBidder 1 rfl) (by decide) (fun q1 => ?_) (fun q1 => ?_)
  · exact sw_throwW (k := 0) (n := 0) O ex_IOB th_X7_needBidder_15 (xx_dt dd_X7_needBidder 7 rfl) (xx_dt dd_X7_needBidder 8 rfl) (xx_dt dd_X7_needBidder 9 rfl) (xx_dt dd_X7_needBidder 10 rfl) (xx_dt dd_X7_needBidder 11 rfl) (by decide) (by decide) (by rw [hQ]; exact ⟨rfl, rfl⟩)
  · refine sw_iload_n O (xx_dt dd_X7_needBidder 2 rfl) rfl ?_
    refine sw_aload_n O (xx_dt dd_X7_needBidder 3 rfl) rfl ?_
    refine sw_get (v := .ref 1001) O (xx_dt dd_X7_needBidder 4 rfl) cl_X7 fl_X7_12 (ly_1000 σ h) (by decide) rfl ?_
    refine sw_get (v := .int (nI B)) O (xx_dt dd_X7_needBidder 5 rfl) cl_X6 fl_X7_100 (ly_1001 σ h) (by decide) (congrArg Value.int hB) ?_
    refine sw_icmp_lt (tgt := 26) O (xx_dt dd_X7_needBidder 6 rfl) (by decide) (fun q2 => ?_) (fun q2 => ?_)
    · exact absurd (hi.mpr ⟨q1, q2⟩) hn
    · exact sw_throwW (k := 0) (n := 0) O ex_IOB th_X7_needBidder_15 (xx_dt dd_X7_needBidder 7 rfl) (xx_dt dd_X7_needBidder 8 rfl) (xx_dt dd_X7_needBidder 9 rfl) (xx_dt dd_X7_needBidder 10 rfl) (xx_dt dd_X7_needBidder 11 rfl) (by decide) (by decide) (by rw [hQ]; exact ⟨rfl, rfl⟩)
theorem ct_X7_needStation_ok {l : Launch} {h : XH} (hl : l.stackTraces = false) {σ : XS9} {C : Nat} (hC : σ 1006 1 = nI C) (hC10 : C ≤ 10)  {x : Int32} (hn : n_lt x C) : XEx l m_X7_needStation 0 0 0 [.ref 1000, .int x] (setC σ h) none (setC σ h) := by
  refine XMet.of hl rfl rfl (Nat.le_of_ble_eq_true rfl) (fun Y O hh hQ => ?_)
  have hi := n_lt_iff (x := x) (R := C) (by omega)
  show SW Y 0 0 (setC σ h) 0 [.ref 1000, .int x] []
  refine sw_iload_n O (xx_dt dd_X7_needStation 0 rfl) rfl ?_
  refine sw_if_lt (tgt := 15) O (xx_dt dd_X7_needStation 1 rfl) (by decide) (fun q1 => ?_) (fun q1 => ?_)
  · exact absurd (hi.mp hn) (fun e => e.1 q1)
  · refine sw_iload_n O (xx_dt dd_X7_needStation 2 rfl) rfl ?_
    refine sw_aload_n O (xx_dt dd_X7_needStation 3 rfl) rfl ?_
    refine sw_get (v := .ref 1006) O (xx_dt dd_X7_needStation 4 rfl) cl_X7 fl_X7_50 (ly_1000 σ h) (by decide) rfl ?_
    refine sw_get (v := .int (nI C)) O (xx_dt dd_X7_needStation 5 rfl) cl_X5 fl_X7_215 (ly_1006 σ h) (by decide) (congrArg Value.int hC) ?_
    refine sw_icmp_lt (tgt := 26) O (xx_dt dd_X7_needStation 6 rfl) (by decide) (fun q2 => ?_) (fun q2 => ?_)
    · exact sw_ret O (xx_dt dd_X7_needStation 12 rfl) rfl (by rw [hQ]; exact ⟨rfl, rfl⟩)
    · exact absurd (hi.mp hn) (fun e => q2 e.2)
theorem ct_X7_needStation_no {l : Launch} {h : XH} (hl : l.stackTraces = false) {σ : XS9} {C : Nat} (hC : σ 1006 1 = nI C) (hC10 : C ≤ 10)  {x : Int32} (hn : ¬ n_lt x C) : XEo l m_X7_needStation 6 1 6 [.ref 1000, .int x] (setC σ h) (.inr eIOB) (setC σ h) := by
  refine XMet.of hl rfl rfl (Nat.le_of_ble_eq_true rfl) (fun Y O hh hQ => ?_)
  have hi := n_lt_iff (x := x) (R := C) (by omega)
  show SW Y 1 6 (setC σ h) 0 [.ref 1000, .int x] []
  refine sw_iload_n O (xx_dt dd_X7_needStation 0 rfl) rfl ?_
  refine sw_if_lt (tgt := 15) O (xx_dt dd_X7_needStation 1 rfl) (by decide) (fun q1 => ?_) (fun q1 => ?_)
  · exact sw_throwW (k := 0) (n := 0) O ex_IOB th_X7_needStation_15 (xx_dt dd_X7_needStation 7 rfl) (xx_dt dd_X7_needStation 8 rfl) (xx_dt dd_X7_needStation 9 rfl) (xx_dt dd_X7_needStation 10 rfl) (xx_dt dd_X7_needStation 11 rfl) (by decide) (by decide) (by rw [hQ]; exact ⟨rfl, rfl⟩)
  · refine sw_iload_n O (xx_dt dd_X7_needStation 2 rfl) rfl ?_
    refine sw_aload_n O (xx_dt dd_X7_needStation 3 rfl) rfl ?_
    refine sw_get (v := .ref 1006) O (xx_dt dd_X7_needStation 4 rfl) cl_X7 fl_X7_50 (ly_1000 σ h) (by decide) rfl ?_
    refine sw_get (v := .int (nI C)) O (xx_dt dd_X7_needStation 5 rfl) cl_X5 fl_X7_215 (ly_1006 σ h) (by decide) (congrArg Value.int hC) ?_
    refine sw_icmp_lt (tgt := 26) O (xx_dt dd_X7_needStation 6 rfl) (by decide) (fun q2 => ?_) (fun q2 => ?_)
    · exact absurd (hi.mpr ⟨q1, q2⟩) hn
    · exact sw_throwW (k := 0) (n := 0) O ex_IOB th_X7_needStation_15 (xx_dt dd_X7_needStation 7 rfl) (xx_dt dd_X7_needStation 8 rfl) (xx_dt dd_X7_needStation 9 rfl) (xx_dt dd_X7_needStation 10 rfl) (xx_dt dd_X7_needStation 11 rfl) (by decide) (by decide) (by rw [hQ]; exact ⟨rfl, rfl⟩)
theorem ct_X7_needRound_ok {l : Launch} {h : XH} (hl : l.stackTraces = false) {σ : XS9} {K : Nat} (hK : σ 2000 9 = nI K) (hK60 : K ≤ 60)  {x : Int32} (hn : n_rd x K) : XEx l m_X7_needRound 0 0 0 [.ref 1000, .int x] (setC σ h) none (setC σ h) := by
  refine XMet.of hl rfl rfl (Nat.le_of_ble_eq_true rfl) (fun Y O hh hQ => ?_)
  have hi := n_rd_iff (x := x) (K := K) (by omega)
  show SW Y 0 0 (setC σ h) 0 [.ref 1000, .int x] []
  refine sw_iload_n O (xx_dt dd_X7_needRound 0 rfl) rfl ?_
  refine sw_iconst (x := 1) O (xx_dt dd_X7_needRound 1 rfl) (by decide) ?_
  refine sw_icmp_lt (tgt := 16) O (xx_dt dd_X7_needRound 2 rfl) (by decide) (fun q1 => ?_) (fun q1 => ?_)
  · exact absurd (hi.mp hn) (fun e => e.1 q1)
  · refine sw_iload_n O (xx_dt dd_X7_needRound 3 rfl) rfl ?_
    refine sw_aload_n O (xx_dt dd_X7_needRound 4 rfl) rfl ?_
    refine sw_get (v := .ref 2000) O (xx_dt dd_X7_needRound 5 rfl) cl_X7 fl_X7_19 (ly_1000 σ h) (by decide) rfl ?_
    refine sw_get (v := .int (nI K)) O (xx_dt dd_X7_needRound 6 rfl) cl_X1 fl_X7_379 (lk_0 σ h (.inl rfl)) (by decide) (congrArg Value.int hK) ?_
    refine sw_icmp_le (tgt := 27) O (xx_dt dd_X7_needRound 7 rfl) (by decide) (fun q2 => ?_) (fun q2 => ?_)
    · exact sw_ret O (xx_dt dd_X7_needRound 13 rfl) rfl (by rw [hQ]; exact ⟨rfl, rfl⟩)
    · exact absurd (hi.mp hn) (fun e => q2 e.2)
theorem ct_X7_needRound_no {l : Launch} {h : XH} (hl : l.stackTraces = false) {σ : XS9} {K : Nat} (hK : σ 2000 9 = nI K) (hK60 : K ≤ 60)  {x : Int32} (hn : ¬ n_rd x K) : XEo l m_X7_needRound 6 1 6 [.ref 1000, .int x] (setC σ h) (.inr eIOB) (setC σ h) := by
  refine XMet.of hl rfl rfl (Nat.le_of_ble_eq_true rfl) (fun Y O hh hQ => ?_)
  have hi := n_rd_iff (x := x) (K := K) (by omega)
  show SW Y 1 6 (setC σ h) 0 [.ref 1000, .int x] []
  refine sw_iload_n O (xx_dt dd_X7_needRound 0 rfl) rfl ?_
  refine sw_iconst (x := 1) O (xx_dt dd_X7_needRound 1 rfl) (by decide) ?_
  refine sw_icmp_lt (tgt := 16) O (xx_dt dd_X7_needRound 2 rfl) (by decide) (fun q1 => ?_) (fun q1 => ?_)
  · exact sw_throwW (k := 0) (n := 0) O ex_IOB th_X7_needRound_16 (xx_dt dd_X7_needRound 8 rfl) (xx_dt dd_X7_needRound 9 rfl) (xx_dt dd_X7_needRound 10 rfl) (xx_dt dd_X7_needRound 11 rfl) (xx_dt dd_X7_needRound 12 rfl) (by decide) (by decide) (by rw [hQ]; exact ⟨rfl, rfl⟩)
  · refine sw_iload_n O (xx_dt dd_X7_needRound 3 rfl) rfl ?_
    refine sw_aload_n O (xx_dt dd_X7_needRound 4 rfl) rfl ?_
    refine sw_get (v := .ref 2000) O (xx_dt dd_X7_needRound 5 rfl) cl_X7 fl_X7_19 (ly_1000 σ h) (by decide) rfl ?_
    refine sw_get (v := .int (nI K)) O (xx_dt dd_X7_needRound 6 rfl) cl_X1 fl_X7_379 (lk_0 σ h (.inl rfl)) (by decide) (congrArg Value.int hK) ?_
    refine sw_icmp_le (tgt := 27) O (xx_dt dd_X7_needRound 7 rfl) (by decide) (fun q2 => ?_) (fun q2 => ?_)
    · exact absurd (hi.mpr ⟨q1, q2⟩) hn
    · exact sw_throwW (k := 0) (n := 0) O ex_IOB th_X7_needRound_16 (xx_dt dd_X7_needRound 8 rfl) (xx_dt dd_X7_needRound 9 rfl) (xx_dt dd_X7_needRound 10 rfl) (xx_dt dd_X7_needRound 11 rfl) (xx_dt dd_X7_needRound 12 rfl) (by decide) (by decide) (by rw [hQ]; exact ⟨rfl, rfl⟩)
theorem ct_X7_needStage_ok {l : Launch} {h : XH} (hl : l.stackTraces = false) {σ : XS9} {x : Int32} (hn : σ 1000 7 = x) : XEx l m_X7_needStage 0 0 0 [.ref 1000, .int x] (setC σ h) none (setC σ h) := by
  refine XMet.of hl rfl rfl (Nat.le_of_ble_eq_true rfl) (fun Y O hh hQ => ?_)
  skip
  show SW Y 0 0 (setC σ h) 0 [.ref 1000, .int x] []
  refine sw_aload_n O (xx_dt dd_X7_needStage 0 rfl) rfl ?_
  refine sw_get (v := .int (σ 1000 7)) O (xx_dt dd_X7_needStage 1 rfl) cl_X7 fl_X7_54 (ly_1000 σ h) (by decide) rfl ?_
  refine sw_iload_n O (xx_dt dd_X7_needStage 2 rfl) rfl ?_
  refine sw_icmp_eq (tgt := 19) O (xx_dt dd_X7_needStage 3 rfl) (by decide) (fun q1 => ?_) (fun q1 => ?_)
  · exact sw_ret O (xx_dt dd_X7_needStage 9 rfl) rfl (by rw [hQ]; exact ⟨rfl, rfl⟩)
  · exact absurd (hn) (q1)
theorem ct_X7_needStage_no {l : Launch} {h : XH} (hl : l.stackTraces = false) {σ : XS9} {x : Int32} (hn : ¬ σ 1000 7 = x) : XEo l m_X7_needStage 6 1 6 [.ref 1000, .int x] (setC σ h) (.inr eISE) (setC σ h) := by
  refine XMet.of hl rfl rfl (Nat.le_of_ble_eq_true rfl) (fun Y O hh hQ => ?_)
  skip
  show SW Y 1 6 (setC σ h) 0 [.ref 1000, .int x] []
  refine sw_aload_n O (xx_dt dd_X7_needStage 0 rfl) rfl ?_
  refine sw_get (v := .int (σ 1000 7)) O (xx_dt dd_X7_needStage 1 rfl) cl_X7 fl_X7_54 (ly_1000 σ h) (by decide) rfl ?_
  refine sw_iload_n O (xx_dt dd_X7_needStage 2 rfl) rfl ?_
  refine sw_icmp_eq (tgt := 19) O (xx_dt dd_X7_needStage 3 rfl) (by decide) (fun q1 => ?_) (fun q1 => ?_)
  · exact absurd (q1) hn
  · exact sw_throwW (k := 0) (n := 0) O ex_ISE th_X7_needStage_8 (xx_dt dd_X7_needStage 4 rfl) (xx_dt dd_X7_needStage 5 rfl) (xx_dt dd_X7_needStage 6 rfl) (xx_dt dd_X7_needStage 7 rfl) (xx_dt dd_X7_needStage 8 rfl) (by decide) (by decide) (by rw [hQ]; exact ⟨rfl, rfl⟩)
theorem ct_X7_needSet_ok {l : Launch} {h : XH} (hl : l.stackTraces = false) {C : Nat} (hC10 : C ≤ 10) {x : Int32} (hn : n_lt x (2 ^ C)) : XEx l m_X7_needSet 0 0 0 [.int x, .int (nI C)] (h) none (h) := by
  refine XMet.of hl rfl rfl (Nat.le_of_ble_eq_true rfl) (fun Y O hh hQ => ?_)
  have hi := n_lt_iff (x := x) (R := 2 ^ C) (by have := pow10 hC10; omega)
  show SW Y 0 0 (h) 0 [.int x, .int (nI C)] []
  refine sw_iload_n O (xx_dt dd_X7_needSet 0 rfl) rfl ?_
  refine sw_if_lt (tgt := 11) O (xx_dt dd_X7_needSet 1 rfl) (by decide) (fun q1 => ?_) (fun q1 => ?_)
  · exact absurd (hi.mp hn) (fun e => e.1 q1)
  · refine sw_iload_n O (xx_dt dd_X7_needSet 2 rfl) rfl ?_
    refine sw_iconst (x := 1) O (xx_dt dd_X7_needSet 3 rfl) (by decide) ?_
    refine sw_iload_n O (xx_dt dd_X7_needSet 4 rfl) rfl ?_
    refine sw_ishl O (xx_dt dd_X7_needSet 5 rfl) ?_
    refine sw_icmp_lt (tgt := 22) O (xx_dt dd_X7_needSet 6 rfl) (by decide) (fun q2 => ?_) (fun q2 => ?_)
    · exact sw_ret O (xx_dt dd_X7_needSet 12 rfl) rfl (by rw [hQ]; exact ⟨rfl, rfl⟩)
    · exact absurd (hi.mp hn) (fun e => q2 (by rw [shl_nat hC10]; exact e.2))
theorem ct_X7_needSet_no {l : Launch} {h : XH} (hl : l.stackTraces = false) {C : Nat} (hC10 : C ≤ 10) {x : Int32} (hn : ¬ n_lt x (2 ^ C)) : XEo l m_X7_needSet 6 1 6 [.int x, .int (nI C)] (h) (.inr eIAE) (h) := by
  refine XMet.of hl rfl rfl (Nat.le_of_ble_eq_true rfl) (fun Y O hh hQ => ?_)
  have hi := n_lt_iff (x := x) (R := 2 ^ C) (by have := pow10 hC10; omega)
  show SW Y 1 6 (h) 0 [.int x, .int (nI C)] []
  refine sw_iload_n O (xx_dt dd_X7_needSet 0 rfl) rfl ?_
  refine sw_if_lt (tgt := 11) O (xx_dt dd_X7_needSet 1 rfl) (by decide) (fun q1 => ?_) (fun q1 => ?_)
  · exact sw_throwW (k := 0) (n := 0) O ex_IAE th_X7_needSet_11 (xx_dt dd_X7_needSet 7 rfl) (xx_dt dd_X7_needSet 8 rfl) (xx_dt dd_X7_needSet 9 rfl) (xx_dt dd_X7_needSet 10 rfl) (xx_dt dd_X7_needSet 11 rfl) (by decide) (by decide) (by rw [hQ]; exact ⟨rfl, rfl⟩)
  · refine sw_iload_n O (xx_dt dd_X7_needSet 2 rfl) rfl ?_
    refine sw_iconst (x := 1) O (xx_dt dd_X7_needSet 3 rfl) (by decide) ?_
    refine sw_iload_n O (xx_dt dd_X7_needSet 4 rfl) rfl ?_
    refine sw_ishl O (xx_dt dd_X7_needSet 5 rfl) ?_
    refine sw_icmp_lt (tgt := 22) O (xx_dt dd_X7_needSet 6 rfl) (by decide) (fun q2 => ?_) (fun q2 => ?_)
    · exact absurd (hi.mpr ⟨q1, by rw [← shl_nat hC10]; exact q2⟩) hn
    · exact sw_throwW (k := 0) (n := 0) O ex_IAE th_X7_needSet_11 (xx_dt dd_X7_needSet 7 rfl) (xx_dt dd_X7_needSet 8 rfl) (xx_dt dd_X7_needSet 9 rfl) (xx_dt dd_X7_needSet 10 rfl) (xx_dt dd_X7_needSet 11 rfl) (by decide) (by decide) (by rw [hQ]; exact ⟨rfl, rfl⟩)
end
section
/-! ===== public methods ===== -/
theorem fr_addRegion {σ : XS9} {R : Nat} {x y z : Int32} {q : Nat} (h : q ≠ 1001 ∧ q ≠ 1010 ∧ q ≠ 1011 ∧ q ≠ 1012) : g_addRegion σ x y z R q = σ q := by
  unfold g_addRegion
  (repeat' split) <;> first | rfl | simp (disch := omega) only [u2_ne, uR_ne, fr_fill, fr_useWaiver, fr_undoContradictions, fr_lowerEligible, fr_moveHeld, fr_raisePrices, fr_begin, fr_closeRound, fr_moveTaken, fr_findDisturbed]
theorem fr_addBidder {σ : XS9} {B : Nat} {x y z w : Int32} {q : Nat} (h : q ≠ 1001 ∧ q ≠ 1014 ∧ q ≠ 1015 ∧ q ≠ 1016 ∧ q ≠ 1017) : g_addBidder σ x y z w B q = σ q := by
  unfold g_addBidder
  (repeat' split) <;> first | rfl | simp (disch := omega) only [u2_ne, uR_ne, fr_fill, fr_useWaiver, fr_undoContradictions, fr_lowerEligible, fr_moveHeld, fr_raisePrices, fr_begin, fr_closeRound, fr_moveTaken, fr_findDisturbed, fr_addRegion]
def o_region (σ : XS9) (x y z : Int32) (R : Nat) : Int32 ⊕ String := (if n_bt x 1 5 then (if n_bt y 1 9 then (if n_bt z 1 999 then (if σ 1000 7 = 0 then (if (nI R) < 5 then .inl (f_addRegion σ x y z R) else .inr eISE) else .inr eISE) else .inr eIAE) else .inr eIAE) else .inr eIAE)
def g_region (σ : XS9) (x y z : Int32) (R : Nat) : XS9 := (if n_bt x 1 5 then (if n_bt y 1 9 then (if n_bt z 1 999 then (if σ 1000 7 = 0 then (if (nI R) < 5 then g_begin (g_addRegion σ x y z R) 2000 else σ) else σ) else σ) else σ) else σ)
theorem ct_X7_region {l : Launch} {h : XH} (hl : l.stackTraces = false) {σ : XS9} {R : Nat} (hR : σ 1001 4 = nI R) (hR5 : R ≤ 5) {x y z : Int32} : XEo l m_X7_region 7 1 6 [.ref 1000, .int x, .int y, .int z] (setC σ h) ((xoi (o_region σ x y z R))) (setC (g_region σ x y z R) h) := by
  refine XMet.of hl rfl rfl (Nat.le_of_ble_eq_true rfl) (fun Y O hh hQ => ?_)
  show SW Y 1 6 (setC σ h) 0 [.ref 1000, .int x, .int y, .int z, xx_d] []
  refine sw_iload_n O (xx_dt dd_X7_region 0 rfl) rfl ?_
  refine sw_iconst (x := 1) O (xx_dt dd_X7_region 1 rfl) (by decide) ?_
  refine sw_iconst (x := 5) O (xx_dt dd_X7_region 2 rfl) (by decide) ?_
  by_cases q1 : n_bt x 1 5
  · refine sw_callSx (as := [.int x, .int 1, .int 5]) (st := []) (st2 := []) (k' := 0) (n' := 0) O (ct_X7_needBetween_ok hl  q1) ce_X7_needBetween ml_X7_61 st_X7_needBetween (xx_dt dd_X7_region 3 rfl) (by decide) rfl rfl (Nat.le_of_ble_eq_true rfl) rfl ?_
    refine sw_iload_n O (xx_dt dd_X7_region 4 rfl) rfl ?_
    refine sw_iconst (x := 1) O (xx_dt dd_X7_region 5 rfl) (by decide) ?_
    refine sw_bipush (x := 9) O (xx_dt dd_X7_region 6 rfl) (by decide) ?_
    by_cases q2 : n_bt y 1 9
    · refine sw_callSx (as := [.int y, .int 1, .int 9]) (st := []) (st2 := []) (k' := 0) (n' := 0) O (ct_X7_needBetween_ok hl  q2) ce_X7_needBetween ml_X7_61 st_X7_needBetween (xx_dt dd_X7_region 7 rfl) (by decide) rfl rfl (Nat.le_of_ble_eq_true rfl) rfl ?_
      refine sw_iload_n O (xx_dt dd_X7_region 8 rfl) rfl ?_
      refine sw_iconst (x := 1) O (xx_dt dd_X7_region 9 rfl) (by decide) ?_
      refine sw_sipush (x := 999) O (xx_dt dd_X7_region 10 rfl) (by decide) ?_
      by_cases q3 : n_bt z 1 999
      · refine sw_callSx (as := [.int z, .int 1, .int 999]) (st := []) (st2 := []) (k' := 0) (n' := 0) O (ct_X7_needBetween_ok hl  q3) ce_X7_needBetween ml_X7_61 st_X7_needBetween (xx_dt dd_X7_region 11 rfl) (by decide) rfl rfl (Nat.le_of_ble_eq_true rfl) rfl ?_
        refine sw_aload_n O (xx_dt dd_X7_region 12 rfl) rfl ?_
        refine sw_iconst (x := 0) O (xx_dt dd_X7_region 13 rfl) (by decide) ?_
        by_cases q4 : σ 1000 7 = 0
        · refine sw_callVx (as := [.int 0]) (st := []) (st2 := []) (k' := 0) (n' := 0) O (ct_X7_needStage_ok hl (σ := σ) q4) ce_X7_needStage ml_X7_65 iv_X7_needStage cl_X7 rfl (ly_1000 σ h) (xx_dt dd_X7_region 14 rfl) (by decide) rfl rfl (Nat.le_of_ble_eq_true rfl) rfl ?_
          refine sw_aload_n O (xx_dt dd_X7_region 15 rfl) rfl ?_
          refine sw_get (v := .ref 1001) O (xx_dt dd_X7_region 16 rfl) cl_X7 fl_X7_12 (ly_1000 σ h) (by decide) rfl ?_
          refine sw_get (v := .int (nI R)) O (xx_dt dd_X7_region 17 rfl) cl_X6 fl_X7_69 (ly_1001 σ h) (by decide) (congrArg Value.int hR) ?_
          refine sw_iconst (x := 5) O (xx_dt dd_X7_region 18 rfl) (by decide) ?_
          refine sw_icmp_lt (tgt := 47) O (xx_dt dd_X7_region 19 rfl) (by decide) (fun q5 => ?_) (fun q5 => ?_)
          · have hfq5 : R < 5 := (nI_ltI (a := R) (b := 5) (by omega) (by omega)).mp q5
            refine sw_aload_n O (xx_dt dd_X7_region 25 rfl) rfl ?_
            refine sw_get (v := .ref 1001) O (xx_dt dd_X7_region 26 rfl) cl_X7 fl_X7_12 (ly_1000 σ h) (by decide) rfl ?_
            refine sw_iload_n O (xx_dt dd_X7_region 27 rfl) rfl ?_
            refine sw_iload_n O (xx_dt dd_X7_region 28 rfl) rfl ?_
            refine sw_iload_n O (xx_dt dd_X7_region 29 rfl) rfl ?_
            refine sw_callVx (as := [.int x, .int y, .int z]) (st := []) (st2 := [.int (f_addRegion σ x y z R)]) O (ct_X6_addRegion hl (σ := σ) (R := R) hR (by omega) (x := x) (y := y) (z := z)) ce_X6_addRegion ml_X7_79 iv_X6_addRegion cl_X6 rfl (ly_1001 σ h) (xx_dt dd_X7_region 30 rfl) (by decide) rfl rfl (Nat.le_of_ble_eq_true rfl) rfl ?_
            refine sw_istore (ls2 := [.ref 1000, .int x, .int y, .int z, .int (f_addRegion σ x y z R)]) O (xx_dt dd_X7_region 31 rfl) (by decide) rfl ?_
            refine sw_aload_n O (xx_dt dd_X7_region 32 rfl) rfl ?_
            refine sw_get (v := .ref 2000) O (xx_dt dd_X7_region 33 rfl) cl_X7 fl_X7_19 (ly_1000 (g_addRegion σ x y z R) h) (by decide) rfl ?_
            refine sw_aload_n O (xx_dt dd_X7_region 34 rfl) rfl ?_
            refine sw_get (v := .ref 1001) O (xx_dt dd_X7_region 35 rfl) cl_X7 fl_X7_12 (ly_1000 (g_addRegion σ x y z R) h) (by decide) rfl ?_
            refine sw_callVx (as := [.ref 1001]) (st := []) (st2 := []) O (ct_X1_begin hl (σ := g_addRegion σ x y z R) (b := 2000) (.inl rfl)  ) ce_X1_begin ml_X7_83 iv_X1_begin cl_X1 rfl (lk_0 (g_addRegion σ x y z R) h (.inl rfl)) (xx_dt dd_X7_region 36 rfl) (by decide) rfl rfl (Nat.le_of_ble_eq_true rfl) rfl ?_
            refine sw_iload O (xx_dt dd_X7_region 37 rfl) rfl ?_
            exact sw_iret O (xx_dt dd_X7_region 38 rfl) rfl rfl (by rw [hQ]; exact ⟨by unfold o_region; simp only [if_pos q1, if_pos q2, if_pos q3, if_pos q4, if_pos q5]; rfl, by unfold g_region; simp only [if_pos q1, if_pos q2, if_pos q3, if_pos q4, if_pos q5]⟩)
          · have hfq5 : ¬ R < 5 := fun e => q5 ((nI_ltI (a := R) (b := 5) (by omega) (by omega)).mpr e)
            exact sw_throw (k := 0) (n := 0) O ex_ISE th_X7_region_37 (xx_dt dd_X7_region 20 rfl) (xx_dt dd_X7_region 21 rfl) (xx_dt dd_X7_region 22 rfl) (xx_dt dd_X7_region 23 rfl) (xx_dt dd_X7_region 24 rfl) (by decide) (by decide) (by rw [hQ]; exact ⟨by unfold o_region; simp only [if_pos q1, if_pos q2, if_pos q3, if_pos q4, if_neg q5]; rfl, by unfold g_region; simp only [if_pos q1, if_pos q2, if_pos q3, if_pos q4, if_neg q5]⟩)
        · exact sw_callVt (as := [.int 0]) (st := []) (k := 0) (n := 0) (k' := 1) (n' := 6) O (ct_X7_needStage_no hl (σ := σ) q4) ce_X7_needStage ml_X7_65 iv_X7_needStage cl_X7 rfl (ly_1000 σ h) (xx_dt dd_X7_region 14 rfl) (by decide) rfl rfl (Nat.le_of_ble_eq_true rfl)  (by rw [hQ]; exact ⟨by unfold o_region; simp only [if_pos q1, if_pos q2, if_pos q3, if_neg q4]; rfl, by unfold g_region; simp only [if_pos q1, if_pos q2, if_pos q3, if_neg q4]⟩)
      · exact sw_callSt (as := [.int z, .int 1, .int 999]) (st := []) (k := 0) (n := 0) (k' := 1) (n' := 6) O (ct_X7_needBetween_no hl  q3) ce_X7_needBetween ml_X7_61 st_X7_needBetween (xx_dt dd_X7_region 11 rfl) (by decide) rfl rfl (Nat.le_of_ble_eq_true rfl)  (by rw [hQ]; exact ⟨by unfold o_region; simp only [if_pos q1, if_pos q2, if_neg q3]; rfl, by unfold g_region; simp only [if_pos q1, if_pos q2, if_neg q3]⟩)
    · exact sw_callSt (as := [.int y, .int 1, .int 9]) (st := []) (k := 0) (n := 0) (k' := 1) (n' := 6) O (ct_X7_needBetween_no hl  q2) ce_X7_needBetween ml_X7_61 st_X7_needBetween (xx_dt dd_X7_region 7 rfl) (by decide) rfl rfl (Nat.le_of_ble_eq_true rfl)  (by rw [hQ]; exact ⟨by unfold o_region; simp only [if_pos q1, if_neg q2]; rfl, by unfold g_region; simp only [if_pos q1, if_neg q2]⟩)
  · exact sw_callSt (as := [.int x, .int 1, .int 5]) (st := []) (k := 0) (n := 0) (k' := 1) (n' := 6) O (ct_X7_needBetween_no hl  q1) ce_X7_needBetween ml_X7_61 st_X7_needBetween (xx_dt dd_X7_region 3 rfl) (by decide) rfl rfl (Nat.le_of_ble_eq_true rfl)  (by rw [hQ]; exact ⟨by unfold o_region; simp only [if_neg q1]; rfl, by unfold g_region; simp only [if_neg q1]⟩)
def o_bidder (σ : XS9) (x y z v : Int32) (B : Nat) : Int32 ⊕ String := (if n_bt x 0 99999 then (if n_bt y 1 200 then (if n_bt z 0 30 then (if n_bt v 0 3 then (if σ 1000 7 = 0 then (if (nI B) < 6 then .inl (f_addBidder σ x y z v B) else .inr eISE) else .inr eISE) else .inr eIAE) else .inr eIAE) else .inr eIAE) else .inr eIAE)
def g_bidder (σ : XS9) (x y z v : Int32) (B : Nat) : XS9 := (if n_bt x 0 99999 then (if n_bt y 1 200 then (if n_bt z 0 30 then (if n_bt v 0 3 then (if σ 1000 7 = 0 then (if (nI B) < 6 then g_begin (g_addBidder σ x y z v B) 2000 else σ) else σ) else σ) else σ) else σ) else σ)
theorem ct_X7_bidder {l : Launch} {h : XH} (hl : l.stackTraces = false) {σ : XS9} {B : Nat} (hB : σ 1001 9 = nI B) (hB6 : B ≤ 6) {x y z v : Int32} : XEo l m_X7_bidder 7 1 6 [.ref 1000, .int x, .int y, .int z, .int v] (setC σ h) ((xoi (o_bidder σ x y z v B))) (setC (g_bidder σ x y z v B) h) := by
  refine XMet.of hl rfl rfl (Nat.le_of_ble_eq_true rfl) (fun Y O hh hQ => ?_)
  show SW Y 1 6 (setC σ h) 0 [.ref 1000, .int x, .int y, .int z, .int v, xx_d] []
  refine sw_iload_n O (xx_dt dd_X7_bidder 0 rfl) rfl ?_
  refine sw_iconst (x := 0) O (xx_dt dd_X7_bidder 1 rfl) (by decide) ?_
  refine sw_ldc O ct_X7_99 (xx_dt dd_X7_bidder 2 rfl) ?_
  by_cases q1 : n_bt x 0 99999
  · refine sw_callSx (as := [.int x, .int 0, .int 99999]) (st := []) (st2 := []) (k' := 0) (n' := 0) O (ct_X7_needBetween_ok hl  q1) ce_X7_needBetween ml_X7_61 st_X7_needBetween (xx_dt dd_X7_bidder 3 rfl) (by decide) rfl rfl (Nat.le_of_ble_eq_true rfl) rfl ?_
    refine sw_iload_n O (xx_dt dd_X7_bidder 4 rfl) rfl ?_
    refine sw_iconst (x := 1) O (xx_dt dd_X7_bidder 5 rfl) (by decide) ?_
    refine sw_sipush (x := 200) O (xx_dt dd_X7_bidder 6 rfl) (by decide) ?_
    by_cases q2 : n_bt y 1 200
    · refine sw_callSx (as := [.int y, .int 1, .int 200]) (st := []) (st2 := []) (k' := 0) (n' := 0) O (ct_X7_needBetween_ok hl  q2) ce_X7_needBetween ml_X7_61 st_X7_needBetween (xx_dt dd_X7_bidder 7 rfl) (by decide) rfl rfl (Nat.le_of_ble_eq_true rfl) rfl ?_
      refine sw_iload_n O (xx_dt dd_X7_bidder 8 rfl) rfl ?_
      refine sw_iconst (x := 0) O (xx_dt dd_X7_bidder 9 rfl) (by decide) ?_
      refine sw_bipush (x := 30) O (xx_dt dd_X7_bidder 10 rfl) (by decide) ?_
      by_cases q3 : n_bt z 0 30
      · refine sw_callSx (as := [.int z, .int 0, .int 30]) (st := []) (st2 := []) (k' := 0) (n' := 0) O (ct_X7_needBetween_ok hl  q3) ce_X7_needBetween ml_X7_61 st_X7_needBetween (xx_dt dd_X7_bidder 11 rfl) (by decide) rfl rfl (Nat.le_of_ble_eq_true rfl) rfl ?_
        refine sw_iload O (xx_dt dd_X7_bidder 12 rfl) rfl ?_
        refine sw_iconst (x := 0) O (xx_dt dd_X7_bidder 13 rfl) (by decide) ?_
        refine sw_iconst (x := 3) O (xx_dt dd_X7_bidder 14 rfl) (by decide) ?_
        by_cases q4 : n_bt v 0 3
        · refine sw_callSx (as := [.int v, .int 0, .int 3]) (st := []) (st2 := []) (k' := 0) (n' := 0) O (ct_X7_needBetween_ok hl  q4) ce_X7_needBetween ml_X7_61 st_X7_needBetween (xx_dt dd_X7_bidder 15 rfl) (by decide) rfl rfl (Nat.le_of_ble_eq_true rfl) rfl ?_
          refine sw_aload_n O (xx_dt dd_X7_bidder 16 rfl) rfl ?_
          refine sw_iconst (x := 0) O (xx_dt dd_X7_bidder 17 rfl) (by decide) ?_
          by_cases q5 : σ 1000 7 = 0
          · refine sw_callVx (as := [.int 0]) (st := []) (st2 := []) (k' := 0) (n' := 0) O (ct_X7_needStage_ok hl (σ := σ) q5) ce_X7_needStage ml_X7_65 iv_X7_needStage cl_X7 rfl (ly_1000 σ h) (xx_dt dd_X7_bidder 18 rfl) (by decide) rfl rfl (Nat.le_of_ble_eq_true rfl) rfl ?_
            refine sw_aload_n O (xx_dt dd_X7_bidder 19 rfl) rfl ?_
            refine sw_get (v := .ref 1001) O (xx_dt dd_X7_bidder 20 rfl) cl_X7 fl_X7_12 (ly_1000 σ h) (by decide) rfl ?_
            refine sw_get (v := .int (nI B)) O (xx_dt dd_X7_bidder 21 rfl) cl_X6 fl_X7_100 (ly_1001 σ h) (by decide) (congrArg Value.int hB) ?_
            refine sw_bipush (x := 6) O (xx_dt dd_X7_bidder 22 rfl) (by decide) ?_
            refine sw_icmp_lt (tgt := 56) O (xx_dt dd_X7_bidder 23 rfl) (by decide) (fun q6 => ?_) (fun q6 => ?_)
            · have hfq6 : B < 6 := (nI_ltI (a := B) (b := 6) (by omega) (by omega)).mp q6
              refine sw_aload_n O (xx_dt dd_X7_bidder 29 rfl) rfl ?_
              refine sw_get (v := .ref 1001) O (xx_dt dd_X7_bidder 30 rfl) cl_X7 fl_X7_12 (ly_1000 σ h) (by decide) rfl ?_
              refine sw_iload_n O (xx_dt dd_X7_bidder 31 rfl) rfl ?_
              refine sw_iload_n O (xx_dt dd_X7_bidder 32 rfl) rfl ?_
              refine sw_iload_n O (xx_dt dd_X7_bidder 33 rfl) rfl ?_
              refine sw_iload O (xx_dt dd_X7_bidder 34 rfl) rfl ?_
              refine sw_callVx (as := [.int x, .int y, .int z, .int v]) (st := []) (st2 := [.int (f_addBidder σ x y z v B)]) O (ct_X6_addBidder hl (σ := σ) (B := B) hB (by omega) (x := x) (y := y) (z := z) (w := v)) ce_X6_addBidder ml_X7_105 iv_X6_addBidder cl_X6 rfl (ly_1001 σ h) (xx_dt dd_X7_bidder 35 rfl) (by decide) rfl rfl (Nat.le_of_ble_eq_true rfl) rfl ?_
              refine sw_istore (ls2 := [.ref 1000, .int x, .int y, .int z, .int v, .int (f_addBidder σ x y z v B)]) O (xx_dt dd_X7_bidder 36 rfl) (by decide) rfl ?_
              refine sw_aload_n O (xx_dt dd_X7_bidder 37 rfl) rfl ?_
              refine sw_get (v := .ref 2000) O (xx_dt dd_X7_bidder 38 rfl) cl_X7 fl_X7_19 (ly_1000 (g_addBidder σ x y z v B) h) (by decide) rfl ?_
              refine sw_aload_n O (xx_dt dd_X7_bidder 39 rfl) rfl ?_
              refine sw_get (v := .ref 1001) O (xx_dt dd_X7_bidder 40 rfl) cl_X7 fl_X7_12 (ly_1000 (g_addBidder σ x y z v B) h) (by decide) rfl ?_
              refine sw_callVx (as := [.ref 1001]) (st := []) (st2 := []) O (ct_X1_begin hl (σ := g_addBidder σ x y z v B) (b := 2000) (.inl rfl)  ) ce_X1_begin ml_X7_83 iv_X1_begin cl_X1 rfl (lk_0 (g_addBidder σ x y z v B) h (.inl rfl)) (xx_dt dd_X7_bidder 41 rfl) (by decide) rfl rfl (Nat.le_of_ble_eq_true rfl) rfl ?_
              refine sw_iload O (xx_dt dd_X7_bidder 42 rfl) rfl ?_
              exact sw_iret O (xx_dt dd_X7_bidder 43 rfl) rfl rfl (by rw [hQ]; exact ⟨by unfold o_bidder; simp only [if_pos q1, if_pos q2, if_pos q3, if_pos q4, if_pos q5, if_pos q6]; rfl, by unfold g_bidder; simp only [if_pos q1, if_pos q2, if_pos q3, if_pos q4, if_pos q5, if_pos q6]⟩)
            · have hfq6 : ¬ B < 6 := fun e => q6 ((nI_ltI (a := B) (b := 6) (by omega) (by omega)).mpr e)
              exact sw_throw (k := 0) (n := 0) O ex_ISE th_X7_bidder_46 (xx_dt dd_X7_bidder 24 rfl) (xx_dt dd_X7_bidder 25 rfl) (xx_dt dd_X7_bidder 26 rfl) (xx_dt dd_X7_bidder 27 rfl) (xx_dt dd_X7_bidder 28 rfl) (by decide) (by decide) (by rw [hQ]; exact ⟨by unfold o_bidder; simp only [if_pos q1, if_pos q2, if_pos q3, if_pos q4, if_pos q5, if_neg q6]; rfl, by unfold g_bidder; simp only [if_pos q1, if_pos q2, if_pos q3, if_pos q4, if_pos q5, if_neg q6]⟩)
          · exact sw_callVt (as := [.int 0]) (st := []) (k := 0) (n := 0) (k' := 1) (n' := 6) O (ct_X7_needStage_no hl (σ := σ) q5) ce_X7_needStage ml_X7_65 iv_X7_needStage cl_X7 rfl (ly_1000 σ h) (xx_dt dd_X7_bidder 18 rfl) (by decide) rfl rfl (Nat.le_of_ble_eq_true rfl)  (by rw [hQ]; exact ⟨by unfold o_bidder; simp only [if_pos q1, if_pos q2, if_pos q3, if_pos q4, if_neg q5]; rfl, by unfold g_bidder; simp only [if_pos q1, if_pos q2, if_pos q3, if_pos q4, if_neg q5]⟩)
        · exact sw_callSt (as := [.int v, .int 0, .int 3]) (st := []) (k := 0) (n := 0) (k' := 1) (n' := 6) O (ct_X7_needBetween_no hl  q4) ce_X7_needBetween ml_X7_61 st_X7_needBetween (xx_dt dd_X7_bidder 15 rfl) (by decide) rfl rfl (Nat.le_of_ble_eq_true rfl)  (by rw [hQ]; exact ⟨by unfold o_bidder; simp only [if_pos q1, if_pos q2, if_pos q3, if_neg q4]; rfl, by unfold g_bidder; simp only [if_pos q1, if_pos q2, if_pos q3, if_neg q4]⟩)
      · exact sw_callSt (as := [.int z, .int 0, .int 30]) (st := []) (k := 0) (n := 0) (k' := 1) (n' := 6) O (ct_X7_needBetween_no hl  q3) ce_X7_needBetween ml_X7_61 st_X7_needBetween (xx_dt dd_X7_bidder 11 rfl) (by decide) rfl rfl (Nat.le_of_ble_eq_true rfl)  (by rw [hQ]; exact ⟨by unfold o_bidder; simp only [if_pos q1, if_pos q2, if_neg q3]; rfl, by unfold g_bidder; simp only [if_pos q1, if_pos q2, if_neg q3]⟩)
    · exact sw_callSt (as := [.int y, .int 1, .int 200]) (st := []) (k := 0) (n := 0) (k' := 1) (n' := 6) O (ct_X7_needBetween_no hl  q2) ce_X7_needBetween ml_X7_61 st_X7_needBetween (xx_dt dd_X7_bidder 7 rfl) (by decide) rfl rfl (Nat.le_of_ble_eq_true rfl)  (by rw [hQ]; exact ⟨by unfold o_bidder; simp only [if_pos q1, if_neg q2]; rfl, by unfold g_bidder; simp only [if_pos q1, if_neg q2]⟩)
  · exact sw_callSt (as := [.int x, .int 0, .int 99999]) (st := []) (k := 0) (n := 0) (k' := 1) (n' := 6) O (ct_X7_needBetween_no hl  q1) ce_X7_needBetween ml_X7_61 st_X7_needBetween (xx_dt dd_X7_bidder 3 rfl) (by decide) rfl rfl (Nat.le_of_ble_eq_true rfl)  (by rw [hQ]; exact ⟨by unfold o_bidder; simp only [if_neg q1]; rfl, by unfold g_bidder; simp only [if_neg q1]⟩)
def o_border (σ : XS9) (x y : Int32) (R : Nat) : Int32 ⊕ String := (if n_lt x R then (if n_lt y R then (if (nI (cn x)) = (nI (cn y)) then .inr eIAE else (if σ 1000 7 = 0 then .inl (f_addBorder σ (cn x) (cn y) R) else .inr eISE)) else .inr eIOB) else .inr eIOB)
def g_border (σ : XS9) (x y : Int32) (R : Nat) : XS9 := (if n_lt x R then (if n_lt y R then (if (nI (cn x)) = (nI (cn y)) then σ else (if σ 1000 7 = 0 then g_addBorder σ (cn x) (cn y) R else σ)) else σ) else σ)
theorem ct_X7_border {l : Launch} {h : XH} (hl : l.stackTraces = false) {σ : XS9} {R : Nat} (hR : σ 1001 4 = nI R) (hR5 : R ≤ 5) {x y : Int32} : XEo l m_X7_border 7 1 6 [.ref 1000, .int x, .int y] (setC σ h) ((xoi (o_border σ x y R))) (setC (g_border σ x y R) h) := by
  refine XMet.of hl rfl rfl (Nat.le_of_ble_eq_true rfl) (fun Y O hh hQ => ?_)
  show SW Y 1 6 (setC σ h) 0 [.ref 1000, .int x, .int y] []
  refine sw_aload_n O (xx_dt dd_X7_border 0 rfl) rfl ?_
  refine sw_iload_n O (xx_dt dd_X7_border 1 rfl) rfl ?_
  by_cases q1 : n_lt x R
  · refine sw_callVx (as := [.int x]) (st := []) (st2 := []) (k' := 0) (n' := 0) O (ct_X7_needRegion_ok hl (σ := σ) (R := R) hR (by omega) q1) ce_X7_needRegion ml_X7_87 iv_X7_needRegion cl_X7 rfl (ly_1000 σ h) (xx_dt dd_X7_border 2 rfl) (by decide) rfl rfl (Nat.le_of_ble_eq_true rfl) rfl ?_
    refine sw_lsE (ls2 := [.ref 1000, .int (nI (cn x)), .int y]) (by rw [← q1.1]) ?_
    have hvq1 := q1.2
    refine sw_aload_n O (xx_dt dd_X7_border 3 rfl) rfl ?_
    refine sw_iload_n O (xx_dt dd_X7_border 4 rfl) rfl ?_
    by_cases q2 : n_lt y R
    · refine sw_callVx (as := [.int y]) (st := []) (st2 := []) (k' := 0) (n' := 0) O (ct_X7_needRegion_ok hl (σ := σ) (R := R) hR (by omega) q2) ce_X7_needRegion ml_X7_87 iv_X7_needRegion cl_X7 rfl (ly_1000 σ h) (xx_dt dd_X7_border 5 rfl) (by decide) rfl rfl (Nat.le_of_ble_eq_true rfl) rfl ?_
      refine sw_lsE (ls2 := [.ref 1000, .int (nI (cn x)), .int (nI (cn y))]) (by rw [← q2.1]) ?_
      have hvq2 := q2.2
      refine sw_iload_n O (xx_dt dd_X7_border 6 rfl) rfl ?_
      refine sw_iload_n O (xx_dt dd_X7_border 7 rfl) rfl ?_
      refine sw_icmp_ne (tgt := 25) O (xx_dt dd_X7_border 8 rfl) (by decide) (fun q3 => ?_) (fun q3 => ?_)
      · refine sw_aload_n O (xx_dt dd_X7_border 14 rfl) rfl ?_
        refine sw_iconst (x := 0) O (xx_dt dd_X7_border 15 rfl) (by decide) ?_
        by_cases q4 : σ 1000 7 = 0
        · refine sw_callVx (as := [.int 0]) (st := []) (st2 := []) (k' := 0) (n' := 0) O (ct_X7_needStage_ok hl (σ := σ) q4) ce_X7_needStage ml_X7_65 iv_X7_needStage cl_X7 rfl (ly_1000 σ h) (xx_dt dd_X7_border 16 rfl) (by decide) rfl rfl (Nat.le_of_ble_eq_true rfl) rfl ?_
          refine sw_aload_n O (xx_dt dd_X7_border 17 rfl) rfl ?_
          refine sw_get (v := .ref 1001) O (xx_dt dd_X7_border 18 rfl) cl_X7 fl_X7_12 (ly_1000 σ h) (by decide) rfl ?_
          refine sw_iload_n O (xx_dt dd_X7_border 19 rfl) rfl ?_
          refine sw_iload_n O (xx_dt dd_X7_border 20 rfl) rfl ?_
          refine sw_callVx (as := [.int (nI (cn x)), .int (nI (cn y))]) (st := []) (st2 := [.int (f_addBorder σ (cn x) (cn y) R)]) O (ct_X6_addBorder hl (σ := σ) (i := cn x) (j := cn y) (by omega) (by omega) (R := R) hR (by omega)) ce_X6_addBorder ml_X7_95 iv_X6_addBorder cl_X6 rfl (ly_1001 σ h) (xx_dt dd_X7_border 21 rfl) (by decide) rfl rfl (Nat.le_of_ble_eq_true rfl) rfl ?_
          exact sw_iret O (xx_dt dd_X7_border 22 rfl) rfl rfl (by rw [hQ]; exact ⟨by unfold o_border; simp only [if_pos q1, if_pos q2, if_neg q3, if_pos q4]; rfl, by unfold g_border; simp only [if_pos q1, if_pos q2, if_neg q3, if_pos q4]⟩)
        · exact sw_callVt (as := [.int 0]) (st := []) (k := 0) (n := 0) (k' := 1) (n' := 6) O (ct_X7_needStage_no hl (σ := σ) q4) ce_X7_needStage ml_X7_65 iv_X7_needStage cl_X7 rfl (ly_1000 σ h) (xx_dt dd_X7_border 16 rfl) (by decide) rfl rfl (Nat.le_of_ble_eq_true rfl)  (by rw [hQ]; exact ⟨by unfold o_border; simp only [if_pos q1, if_pos q2, if_neg q3, if_neg q4]; rfl, by unfold g_border; simp only [if_pos q1, if_pos q2, if_neg q3, if_neg q4]⟩)
      · exact sw_throw (k := 0) (n := 0) O ex_IAE th_X7_border_15 (xx_dt dd_X7_border 9 rfl) (xx_dt dd_X7_border 10 rfl) (xx_dt dd_X7_border 11 rfl) (xx_dt dd_X7_border 12 rfl) (xx_dt dd_X7_border 13 rfl) (by decide) (by decide) (by rw [hQ]; exact ⟨by unfold o_border; simp only [if_pos q1, if_pos q2, if_pos q3]; rfl, by unfold g_border; simp only [if_pos q1, if_pos q2, if_pos q3]⟩)
    · exact sw_callVt (as := [.int y]) (st := []) (k := 0) (n := 0) (k' := 1) (n' := 6) O (ct_X7_needRegion_no hl (σ := σ) (R := R) hR (by omega) q2) ce_X7_needRegion ml_X7_87 iv_X7_needRegion cl_X7 rfl (ly_1000 σ h) (xx_dt dd_X7_border 5 rfl) (by decide) rfl rfl (Nat.le_of_ble_eq_true rfl)  (by rw [hQ]; exact ⟨by unfold o_border; simp only [if_pos q1, if_neg q2]; rfl, by unfold g_border; simp only [if_pos q1, if_neg q2]⟩)
  · exact sw_callVt (as := [.int x]) (st := []) (k := 0) (n := 0) (k' := 1) (n' := 6) O (ct_X7_needRegion_no hl (σ := σ) (R := R) hR (by omega) q1) ce_X7_needRegion ml_X7_87 iv_X7_needRegion cl_X7 rfl (ly_1000 σ h) (xx_dt dd_X7_border 2 rfl) (by decide) rfl rfl (Nat.le_of_ble_eq_true rfl)  (by rw [hQ]; exact ⟨by unfold o_border; simp only [if_neg q1]; rfl, by unfold g_border; simp only [if_neg q1]⟩)
def o_rules (σ : XS9) (x y : Int32) : Int32 ⊕ String := (if n_bt x 1 5 then (if σ 1000 7 = 0 then .inl (σ 1001 10) else .inr eISE) else .inr eIAE)
def g_rules (σ : XS9) (x y : Int32) : XS9 := (if n_bt x 1 5 then (if σ 1000 7 = 0 then u2 (u2 σ 1001 10 x) 1001 11 y else σ) else σ)
theorem ct_X7_rules {l : Launch} {h : XH} (hl : l.stackTraces = false) {σ : XS9} {x y : Int32} (hy : y = 0 ∨ y = 1) : XEo l m_X7_rules 7 1 6 [.ref 1000, .int x, .int y] (setC σ h) ((xoi (o_rules σ x y))) (setC (g_rules σ x y) h) := by
  refine XMet.of hl rfl rfl (Nat.le_of_ble_eq_true rfl) (fun Y O hh hQ => ?_)
  show SW Y 1 6 (setC σ h) 0 [.ref 1000, .int x, .int y, xx_d] []
  refine sw_iload_n O (xx_dt dd_X7_rules 0 rfl) rfl ?_
  refine sw_iconst (x := 1) O (xx_dt dd_X7_rules 1 rfl) (by decide) ?_
  refine sw_iconst (x := 5) O (xx_dt dd_X7_rules 2 rfl) (by decide) ?_
  by_cases q1 : n_bt x 1 5
  · refine sw_callSx (as := [.int x, .int 1, .int 5]) (st := []) (st2 := []) (k' := 0) (n' := 0) O (ct_X7_needBetween_ok hl  q1) ce_X7_needBetween ml_X7_61 st_X7_needBetween (xx_dt dd_X7_rules 3 rfl) (by decide) rfl rfl (Nat.le_of_ble_eq_true rfl) rfl ?_
    refine sw_aload_n O (xx_dt dd_X7_rules 4 rfl) rfl ?_
    refine sw_iconst (x := 0) O (xx_dt dd_X7_rules 5 rfl) (by decide) ?_
    by_cases q2 : σ 1000 7 = 0
    · refine sw_callVx (as := [.int 0]) (st := []) (st2 := []) (k' := 0) (n' := 0) O (ct_X7_needStage_ok hl (σ := σ) q2) ce_X7_needStage ml_X7_65 iv_X7_needStage cl_X7 rfl (ly_1000 σ h) (xx_dt dd_X7_rules 6 rfl) (by decide) rfl rfl (Nat.le_of_ble_eq_true rfl) rfl ?_
      refine sw_aload_n O (xx_dt dd_X7_rules 7 rfl) rfl ?_
      refine sw_get (v := .ref 1001) O (xx_dt dd_X7_rules 8 rfl) cl_X7 fl_X7_12 (ly_1000 σ h) (by decide) rfl ?_
      refine sw_get (v := .int (σ 1001 10)) O (xx_dt dd_X7_rules 9 rfl) cl_X6 fl_X7_109 (ly_1001 σ h) (by decide) rfl ?_
      refine sw_istore_n (ls2 := [.ref 1000, .int x, .int y, .int (σ 1001 10)]) O (xx_dt dd_X7_rules 10 rfl) (by decide) rfl ?_
      refine sw_aload_n O (xx_dt dd_X7_rules 11 rfl) rfl ?_
      refine sw_get (v := .ref 1001) O (xx_dt dd_X7_rules 12 rfl) cl_X7 fl_X7_12 (ly_1000 σ h) (by decide) rfl ?_
      refine sw_iload_n O (xx_dt dd_X7_rules 13 rfl) rfl ?_
      refine sw_put (h2 := setC (u2 σ 1001 10 x) h) O (xx_dt dd_X7_rules 14 rfl) cl_X6 fl_X7_109 (ly_1001 σ h) (by decide) (by decide) rfl (fun _ => ⟨rfl, rfl⟩) pu_1001_10 ?_
      refine sw_aload_n O (xx_dt dd_X7_rules 15 rfl) rfl ?_
      refine sw_get (v := .ref 1001) O (xx_dt dd_X7_rules 16 rfl) cl_X7 fl_X7_12 (ly_1000 (u2 σ 1001 10 x) h) (by decide) rfl ?_
      refine sw_iload_n O (xx_dt dd_X7_rules 17 rfl) rfl ?_
      refine sw_put (h2 := setC (u2 (u2 σ 1001 10 x) 1001 11 y) h) O (xx_dt dd_X7_rules 18 rfl) cl_X6 fl_X7_112 (ly_1001 (u2 σ 1001 10 x) h) (by decide) (by decide) rfl (fun _ => ⟨by rcases hy with rfl | rfl <;> rfl, by rcases hy with rfl | rfl <;> rfl⟩) pu_1001_11 ?_
      refine sw_iload_n O (xx_dt dd_X7_rules 19 rfl) rfl ?_
      exact sw_iret O (xx_dt dd_X7_rules 20 rfl) rfl rfl (by rw [hQ]; exact ⟨by unfold o_rules; simp only [if_pos q1, if_pos q2]; rfl, by unfold g_rules; simp only [if_pos q1, if_pos q2]⟩)
    · exact sw_callVt (as := [.int 0]) (st := []) (k := 0) (n := 0) (k' := 1) (n' := 6) O (ct_X7_needStage_no hl (σ := σ) q2) ce_X7_needStage ml_X7_65 iv_X7_needStage cl_X7 rfl (ly_1000 σ h) (xx_dt dd_X7_rules 6 rfl) (by decide) rfl rfl (Nat.le_of_ble_eq_true rfl)  (by rw [hQ]; exact ⟨by unfold o_rules; simp only [if_pos q1, if_neg q2]; rfl, by unfold g_rules; simp only [if_pos q1, if_neg q2]⟩)
  · exact sw_callSt (as := [.int x, .int 1, .int 5]) (st := []) (k := 0) (n := 0) (k' := 1) (n' := 6) O (ct_X7_needBetween_no hl  q1) ce_X7_needBetween ml_X7_61 st_X7_needBetween (xx_dt dd_X7_rules 3 rfl) (by decide) rfl rfl (Nat.le_of_ble_eq_true rfl)  (by rw [hQ]; exact ⟨by unfold o_rules; simp only [if_neg q1]; rfl, by unfold g_rules; simp only [if_neg q1]⟩)
def o_step (σ : XS9) (x : Int32) : Int32 ⊕ String := (if n_bt x 1 20 then (if (σ 1000 7) = 0 then .inl (σ 1000 8) else (if (σ 1000 7) = 1 then .inl (σ 1000 8) else .inr eISE)) else .inr eIAE)
def g_step (σ : XS9) (x : Int32) : XS9 := (if n_bt x 1 20 then (if (σ 1000 7) = 0 then u2 σ 1000 8 x else (if (σ 1000 7) = 1 then u2 σ 1000 8 x else σ)) else σ)
theorem ct_X7_step {l : Launch} {h : XH} (hl : l.stackTraces = false) {σ : XS9} {x : Int32} : XEo l m_X7_step 7 1 6 [.ref 1000, .int x] (setC σ h) ((xoi (o_step σ x))) (setC (g_step σ x) h) := by
  refine XMet.of hl rfl rfl (Nat.le_of_ble_eq_true rfl) (fun Y O hh hQ => ?_)
  show SW Y 1 6 (setC σ h) 0 [.ref 1000, .int x, xx_d] []
  refine sw_iload_n O (xx_dt dd_X7_step 0 rfl) rfl ?_
  refine sw_iconst (x := 1) O (xx_dt dd_X7_step 1 rfl) (by decide) ?_
  refine sw_bipush (x := 20) O (xx_dt dd_X7_step 2 rfl) (by decide) ?_
  by_cases q1 : n_bt x 1 20
  · refine sw_callSx (as := [.int x, .int 1, .int 20]) (st := []) (st2 := []) (k' := 0) (n' := 0) O (ct_X7_needBetween_ok hl  q1) ce_X7_needBetween ml_X7_61 st_X7_needBetween (xx_dt dd_X7_step 3 rfl) (by decide) rfl rfl (Nat.le_of_ble_eq_true rfl) rfl ?_
    refine sw_aload_n O (xx_dt dd_X7_step 4 rfl) rfl ?_
    refine sw_get (v := .int (σ 1000 7)) O (xx_dt dd_X7_step 5 rfl) cl_X7 fl_X7_54 (ly_1000 σ h) (by decide) rfl ?_
    refine sw_if_eq (tgt := 32) O (xx_dt dd_X7_step 6 rfl) (by decide) (fun q2 => ?_) (fun q2 => ?_)
    · refine sw_aload_n O (xx_dt dd_X7_step 16 rfl) rfl ?_
      refine sw_get (v := .int (σ 1000 8)) O (xx_dt dd_X7_step 17 rfl) cl_X7 fl_X7_58 (ly_1000 σ h) (by decide) rfl ?_
      refine sw_istore_n (ls2 := [.ref 1000, .int x, .int (σ 1000 8)]) O (xx_dt dd_X7_step 18 rfl) (by decide) rfl ?_
      refine sw_aload_n O (xx_dt dd_X7_step 19 rfl) rfl ?_
      refine sw_iload_n O (xx_dt dd_X7_step 20 rfl) rfl ?_
      refine sw_put (h2 := setC (u2 σ 1000 8 x) h) O (xx_dt dd_X7_step 21 rfl) cl_X7 fl_X7_58 (ly_1000 σ h) (by decide) (by decide) rfl (fun _ => ⟨rfl, rfl⟩) pu_1000_8 ?_
      refine sw_iload_n O (xx_dt dd_X7_step 22 rfl) rfl ?_
      exact sw_iret O (xx_dt dd_X7_step 23 rfl) rfl rfl (by rw [hQ]; exact ⟨by unfold o_step; simp only [if_pos q1, if_pos q2]; rfl, by unfold g_step; simp only [if_pos q1, if_pos q2]⟩)
    · refine sw_aload_n O (xx_dt dd_X7_step 7 rfl) rfl ?_
      refine sw_get (v := .int (σ 1000 7)) O (xx_dt dd_X7_step 8 rfl) cl_X7 fl_X7_54 (ly_1000 σ h) (by decide) rfl ?_
      refine sw_iconst (x := 1) O (xx_dt dd_X7_step 9 rfl) (by decide) ?_
      refine sw_icmp_eq (tgt := 32) O (xx_dt dd_X7_step 10 rfl) (by decide) (fun q3 => ?_) (fun q3 => ?_)
      · refine sw_aload_n O (xx_dt dd_X7_step 16 rfl) rfl ?_
        refine sw_get (v := .int (σ 1000 8)) O (xx_dt dd_X7_step 17 rfl) cl_X7 fl_X7_58 (ly_1000 σ h) (by decide) rfl ?_
        refine sw_istore_n (ls2 := [.ref 1000, .int x, .int (σ 1000 8)]) O (xx_dt dd_X7_step 18 rfl) (by decide) rfl ?_
        refine sw_aload_n O (xx_dt dd_X7_step 19 rfl) rfl ?_
        refine sw_iload_n O (xx_dt dd_X7_step 20 rfl) rfl ?_
        refine sw_put (h2 := setC (u2 σ 1000 8 x) h) O (xx_dt dd_X7_step 21 rfl) cl_X7 fl_X7_58 (ly_1000 σ h) (by decide) (by decide) rfl (fun _ => ⟨rfl, rfl⟩) pu_1000_8 ?_
        refine sw_iload_n O (xx_dt dd_X7_step 22 rfl) rfl ?_
        exact sw_iret O (xx_dt dd_X7_step 23 rfl) rfl rfl (by rw [hQ]; exact ⟨by unfold o_step; simp only [if_pos q1, if_neg q2, if_pos q3]; rfl, by unfold g_step; simp only [if_pos q1, if_neg q2, if_pos q3]⟩)
      · exact sw_throw (k := 0) (n := 0) O ex_ISE th_X7_step_22 (xx_dt dd_X7_step 11 rfl) (xx_dt dd_X7_step 12 rfl) (xx_dt dd_X7_step 13 rfl) (xx_dt dd_X7_step 14 rfl) (xx_dt dd_X7_step 15 rfl) (by decide) (by decide) (by rw [hQ]; exact ⟨by unfold o_step; simp only [if_pos q1, if_neg q2, if_neg q3]; rfl, by unfold g_step; simp only [if_pos q1, if_neg q2, if_neg q3]⟩)
  · exact sw_callSt (as := [.int x, .int 1, .int 20]) (st := []) (k := 0) (n := 0) (k' := 1) (n' := 6) O (ct_X7_needBetween_no hl  q1) ce_X7_needBetween ml_X7_61 st_X7_needBetween (xx_dt dd_X7_step 3 rfl) (by decide) rfl rfl (Nat.le_of_ble_eq_true rfl)  (by rw [hQ]; exact ⟨by unfold o_step; simp only [if_neg q1]; rfl, by unfold g_step; simp only [if_neg q1]⟩)
def o_open (σ : XS9) (R B : Nat) : Int32 ⊕ String := (if σ 1000 7 = 0 then (if (nI R) = 0 then .inr eISE else (if (nI B) = 0 then .inr eISE else .inl (f_allPrices (u2 σ 1000 7 1) 2000))) else .inr eISE)
def g_open (σ : XS9) (R B : Nat) : XS9 := (if σ 1000 7 = 0 then (if (nI R) = 0 then σ else (if (nI B) = 0 then σ else u2 σ 1000 7 1)) else σ)
theorem ct_X7_open {l : Launch} {h : XH} (hl : l.stackTraces = false) {σ : XS9} {R : Nat} (hR : σ 1001 4 = nI R) (hR5 : R ≤ 5) {B : Nat} (hB : σ 1001 9 = nI B) (hB6 : B ≤ 6)  : XEo l m_X7_open 7 1 6 [.ref 1000] (setC σ h) ((xoi (o_open σ R B))) (setC (g_open σ R B) h) := by
  refine XMet.of hl rfl rfl (Nat.le_of_ble_eq_true rfl) (fun Y O hh hQ => ?_)
  show SW Y 1 6 (setC σ h) 0 [.ref 1000] []
  refine sw_aload_n O (xx_dt dd_X7_open 0 rfl) rfl ?_
  refine sw_iconst (x := 0) O (xx_dt dd_X7_open 1 rfl) (by decide) ?_
  by_cases q1 : σ 1000 7 = 0
  · refine sw_callVx (as := [.int 0]) (st := []) (st2 := []) (k' := 0) (n' := 0) O (ct_X7_needStage_ok hl (σ := σ) q1) ce_X7_needStage ml_X7_65 iv_X7_needStage cl_X7 rfl (ly_1000 σ h) (xx_dt dd_X7_open 2 rfl) (by decide) rfl rfl (Nat.le_of_ble_eq_true rfl) rfl ?_
    refine sw_aload_n O (xx_dt dd_X7_open 3 rfl) rfl ?_
    refine sw_get (v := .ref 1001) O (xx_dt dd_X7_open 4 rfl) cl_X7 fl_X7_12 (ly_1000 σ h) (by decide) rfl ?_
    refine sw_get (v := .int (nI R)) O (xx_dt dd_X7_open 5 rfl) cl_X6 fl_X7_69 (ly_1001 σ h) (by decide) (congrArg Value.int hR) ?_
    refine sw_if_eq (tgt := 25) O (xx_dt dd_X7_open 6 rfl) (by decide) (fun q2 => ?_) (fun q2 => ?_)
    · exact sw_throw (k := 0) (n := 0) O ex_ISE th_X7_open_25 (xx_dt dd_X7_open 11 rfl) (xx_dt dd_X7_open 12 rfl) (xx_dt dd_X7_open 13 rfl) (xx_dt dd_X7_open 14 rfl) (xx_dt dd_X7_open 15 rfl) (by decide) (by decide) (by rw [hQ]; exact ⟨by unfold o_open; simp only [if_pos q1, if_pos q2]; rfl, by unfold g_open; simp only [if_pos q1, if_pos q2]⟩)
    · refine sw_aload_n O (xx_dt dd_X7_open 7 rfl) rfl ?_
      refine sw_get (v := .ref 1001) O (xx_dt dd_X7_open 8 rfl) cl_X7 fl_X7_12 (ly_1000 σ h) (by decide) rfl ?_
      refine sw_get (v := .int (nI B)) O (xx_dt dd_X7_open 9 rfl) cl_X6 fl_X7_100 (ly_1001 σ h) (by decide) (congrArg Value.int hB) ?_
      refine sw_if_ne (tgt := 35) O (xx_dt dd_X7_open 10 rfl) (by decide) (fun q3 => ?_) (fun q3 => ?_)
      · refine sw_aload_n O (xx_dt dd_X7_open 16 rfl) rfl ?_
        refine sw_iconst (x := 1) O (xx_dt dd_X7_open 17 rfl) (by decide) ?_
        refine sw_put (h2 := setC (u2 σ 1000 7 1) h) O (xx_dt dd_X7_open 18 rfl) cl_X7 fl_X7_54 (ly_1000 σ h) (by decide) (by decide) rfl (fun _ => ⟨rfl, rfl⟩) pu_1000_7 ?_
        refine sw_aload_n O (xx_dt dd_X7_open 19 rfl) rfl ?_
        refine sw_get (v := .ref 2000) O (xx_dt dd_X7_open 20 rfl) cl_X7 fl_X7_19 (ly_1000 (u2 σ 1000 7 1) h) (by decide) rfl ?_
        refine sw_callVx (as := []) (st := []) (st2 := [.int (f_allPrices (u2 σ 1000 7 1) 2000)]) O (ct_X1_allPrices hl (σ := u2 σ 1000 7 1) (b := 2000) (.inl rfl)  ) ce_X1_allPrices ml_X7_120 iv_X1_allPrices cl_X1 rfl (lk_0 (u2 σ 1000 7 1) h (.inl rfl)) (xx_dt dd_X7_open 21 rfl) (by decide) rfl rfl (Nat.le_of_ble_eq_true rfl) rfl ?_
        exact sw_iret O (xx_dt dd_X7_open 22 rfl) rfl rfl (by rw [hQ]; exact ⟨by unfold o_open; simp only [if_pos q1, if_neg q2, if_neg q3]; rfl, by unfold g_open; simp only [if_pos q1, if_neg q2, if_neg q3]⟩)
      · exact sw_throw (k := 0) (n := 0) O ex_ISE th_X7_open_25 (xx_dt dd_X7_open 11 rfl) (xx_dt dd_X7_open 12 rfl) (xx_dt dd_X7_open 13 rfl) (xx_dt dd_X7_open 14 rfl) (xx_dt dd_X7_open 15 rfl) (by decide) (by decide) (by rw [hQ]; exact ⟨by unfold o_open; simp only [if_pos q1, if_neg q2, if_pos q3]; rfl, by unfold g_open; simp only [if_pos q1, if_neg q2, if_pos q3]⟩)
  · exact sw_callVt (as := [.int 0]) (st := []) (k := 0) (n := 0) (k' := 1) (n' := 6) O (ct_X7_needStage_no hl (σ := σ) q1) ce_X7_needStage ml_X7_65 iv_X7_needStage cl_X7 rfl (ly_1000 σ h) (xx_dt dd_X7_open 2 rfl) (by decide) rfl rfl (Nat.le_of_ble_eq_true rfl)  (by rw [hQ]; exact ⟨by unfold o_open; simp only [if_neg q1]; rfl, by unfold g_open; simp only [if_neg q1]⟩)
def o_wish (σ : XS9) (x y z : Int32) (R B : Nat) : Int32 ⊕ String := (if n_lt x B then (if n_lt y R then (if n_bt z 0 5 then (if σ 1000 7 = 1 then (if (f_mayWish σ 2000 (cn x) (cn y) (nI (cn z)) B) = 0 then .inr eISE else .inl (f_total (f_replaced (σ (2000 + 3) (cn x)) (cn y) (nI (cn z))) 5 (σ 1011))) else .inr eISE) else .inr eIAE) else .inr eIOB) else .inr eIOB)
def g_wish (σ : XS9) (x y z : Int32) (R B : Nat) : XS9 := (if n_lt x B then (if n_lt y R then (if n_bt z 0 5 then (if σ 1000 7 = 1 then (if (f_mayWish σ 2000 (cn x) (cn y) (nI (cn z)) B) = 0 then σ else u2 σ (2000 + 3) (cn x) (f_replaced (σ (2000 + 3) (cn x)) (cn y) (nI (cn z)))) else σ) else σ) else σ) else σ)
theorem ct_X7_wish {l : Launch} {h : XH} (hl : l.stackTraces = false) {σ : XS9} {R : Nat} (hR : σ 1001 4 = nI R) (hR5 : R ≤ 5) {B : Nat} (hB : σ 1001 9 = nI B) (hB6 : B ≤ 6) {x y z : Int32} : XEo l m_X7_wish 7 1 6 [.ref 1000, .int x, .int y, .int z] (setC σ h) ((xoi (o_wish σ x y z R B))) (setC (g_wish σ x y z R B) h) := by
  refine XMet.of hl rfl rfl (Nat.le_of_ble_eq_true rfl) (fun Y O hh hQ => ?_)
  show SW Y 1 6 (setC σ h) 0 [.ref 1000, .int x, .int y, .int z] []
  refine sw_aload_n O (xx_dt dd_X7_wish 0 rfl) rfl ?_
  refine sw_iload_n O (xx_dt dd_X7_wish 1 rfl) rfl ?_
  by_cases q1 : n_lt x B
  · refine sw_callVx (as := [.int x]) (st := []) (st2 := []) (k' := 0) (n' := 0) O (ct_X7_needBidder_ok hl (σ := σ) (B := B) hB (by omega) q1) ce_X7_needBidder ml_X7_124 iv_X7_needBidder cl_X7 rfl (ly_1000 σ h) (xx_dt dd_X7_wish 2 rfl) (by decide) rfl rfl (Nat.le_of_ble_eq_true rfl) rfl ?_
    refine sw_lsE (ls2 := [.ref 1000, .int (nI (cn x)), .int y, .int z]) (by rw [← q1.1]) ?_
    have hvq1 := q1.2
    refine sw_aload_n O (xx_dt dd_X7_wish 3 rfl) rfl ?_
    refine sw_iload_n O (xx_dt dd_X7_wish 4 rfl) rfl ?_
    by_cases q2 : n_lt y R
    · refine sw_callVx (as := [.int y]) (st := []) (st2 := []) (k' := 0) (n' := 0) O (ct_X7_needRegion_ok hl (σ := σ) (R := R) hR (by omega) q2) ce_X7_needRegion ml_X7_87 iv_X7_needRegion cl_X7 rfl (ly_1000 σ h) (xx_dt dd_X7_wish 5 rfl) (by decide) rfl rfl (Nat.le_of_ble_eq_true rfl) rfl ?_
      refine sw_lsE (ls2 := [.ref 1000, .int (nI (cn x)), .int (nI (cn y)), .int z]) (by rw [← q2.1]) ?_
      have hvq2 := q2.2
      refine sw_iload_n O (xx_dt dd_X7_wish 6 rfl) rfl ?_
      refine sw_iconst (x := 0) O (xx_dt dd_X7_wish 7 rfl) (by decide) ?_
      refine sw_iconst (x := 5) O (xx_dt dd_X7_wish 8 rfl) (by decide) ?_
      by_cases q3 : n_bt z 0 5
      · refine sw_callSx (as := [.int z, .int 0, .int 5]) (st := []) (st2 := []) (k' := 0) (n' := 0) O (ct_X7_needBetween_ok hl  q3) ce_X7_needBetween ml_X7_61 st_X7_needBetween (xx_dt dd_X7_wish 9 rfl) (by decide) rfl rfl (Nat.le_of_ble_eq_true rfl) rfl ?_
        refine sw_lsE (ls2 := [.ref 1000, .int (nI (cn x)), .int (nI (cn y)), .int (nI (cn z))]) (by rw [← (bt_nat 5 q3 (by decide) (by decide) (by decide)).1]) ?_
        have hvq3 := (bt_nat 5 q3 (by decide) (by decide) (by decide)).2
        refine sw_aload_n O (xx_dt dd_X7_wish 10 rfl) rfl ?_
        refine sw_iconst (x := 1) O (xx_dt dd_X7_wish 11 rfl) (by decide) ?_
        by_cases q4 : σ 1000 7 = 1
        · refine sw_callVx (as := [.int 1]) (st := []) (st2 := []) (k' := 0) (n' := 0) O (ct_X7_needStage_ok hl (σ := σ) q4) ce_X7_needStage ml_X7_65 iv_X7_needStage cl_X7 rfl (ly_1000 σ h) (xx_dt dd_X7_wish 12 rfl) (by decide) rfl rfl (Nat.le_of_ble_eq_true rfl) rfl ?_
          refine sw_aload_n O (xx_dt dd_X7_wish 13 rfl) rfl ?_
          refine sw_get (v := .ref 2000) O (xx_dt dd_X7_wish 14 rfl) cl_X7 fl_X7_19 (ly_1000 σ h) (by decide) rfl ?_
          refine sw_aload_n O (xx_dt dd_X7_wish 15 rfl) rfl ?_
          refine sw_get (v := .ref 1001) O (xx_dt dd_X7_wish 16 rfl) cl_X7 fl_X7_12 (ly_1000 σ h) (by decide) rfl ?_
          refine sw_iload_n O (xx_dt dd_X7_wish 17 rfl) rfl ?_
          refine sw_iload_n O (xx_dt dd_X7_wish 18 rfl) rfl ?_
          refine sw_iload_n O (xx_dt dd_X7_wish 19 rfl) rfl ?_
          refine sw_callVx (as := [.ref 1001, .int (nI (cn x)), .int (nI (cn y)), .int (nI (cn z))]) (st := []) (st2 := [.int (f_mayWish σ 2000 (cn x) (cn y) (nI (cn z)) B)]) O (ct_X1_mayWish hl (σ := σ) (b := 2000) (.inl rfl) (B := B) hB (by omega) (i := cn x) (r := cn y) (x := nI (cn z)) (by omega) (by omega)) ce_X1_mayWish ml_X7_127 iv_X1_mayWish cl_X1 rfl (lk_0 σ h (.inl rfl)) (xx_dt dd_X7_wish 20 rfl) (by decide) rfl rfl (Nat.le_of_ble_eq_true rfl) rfl ?_
          refine sw_if_ne (tgt := 48) O (xx_dt dd_X7_wish 21 rfl) (by decide) (fun q5 => ?_) (fun q5 => ?_)
          · refine sw_aload_n O (xx_dt dd_X7_wish 27 rfl) rfl ?_
            refine sw_get (v := .ref 2000) O (xx_dt dd_X7_wish 28 rfl) cl_X7 fl_X7_19 (ly_1000 σ h) (by decide) rfl ?_
            refine sw_get (v := .ref (2000 + 3)) O (xx_dt dd_X7_wish 29 rfl) cl_X1 fl_X7_133 (lk_0 σ h (.inl rfl)) (by decide) rfl ?_
            refine sw_iload_n O (xx_dt dd_X7_wish 30 rfl) rfl ?_
            refine sw_aload_n O (xx_dt dd_X7_wish 31 rfl) rfl ?_
            refine sw_get (v := .ref 2000) O (xx_dt dd_X7_wish 32 rfl) cl_X7 fl_X7_19 (ly_1000 σ h) (by decide) rfl ?_
            refine sw_get (v := .ref (2000 + 3)) O (xx_dt dd_X7_wish 33 rfl) cl_X1 fl_X7_133 (lk_0 σ h (.inl rfl)) (by decide) rfl ?_
            refine sw_iload_n O (xx_dt dd_X7_wish 34 rfl) rfl ?_
            refine sw_iaload (v := .int (σ (2000 + 3) (cn x))) O (xx_dt dd_X7_wish 35 rfl) (lk_3 σ h (.inl rfl)) (pk_in (cn x) _ (by omega)) (by rw [nI_clamp (by omega)]; try exact rfl) ?_
            refine sw_iload_n O (xx_dt dd_X7_wish 36 rfl) rfl ?_
            refine sw_iload_n O (xx_dt dd_X7_wish 37 rfl) rfl ?_
            refine sw_callSx (as := [.int (σ (2000 + 3) (cn x)), .int (nI (cn y)), .int (nI (cn z))]) (st := [.int (nI (cn x)), .ref (2000 + 3)]) (st2 := [.int (f_replaced (σ (2000 + 3) (cn x)) (cn y) (nI (cn z))), .int (nI (cn x)), .ref (2000 + 3)]) O (ct_X0_replaced hl (c := σ (2000 + 3) (cn x)) (m := nI (cn z)) (r := cn y) (by omega)) ce_X0_replaced ml_X7_137 st_X0_replaced (xx_dt dd_X7_wish 38 rfl) (by decide) rfl rfl (Nat.le_of_ble_eq_true rfl) rfl ?_
            refine sw_iastore (h2 := setC (u2 σ (2000 + 3) (cn x) (f_replaced (σ (2000 + 3) (cn x)) (cn y) (nI (cn z)))) h) O (xx_dt dd_X7_wish 39 rfl) (lk_3 σ h (.inl rfl)) (pk_in (cn x) _ (by omega)) (by omega) (by rw [nI_clamp (by omega)]; exact (pk_a3 (.inl rfl))) ?_
            refine sw_aload_n O (xx_dt dd_X7_wish 40 rfl) rfl ?_
            refine sw_get (v := .ref 2000) O (xx_dt dd_X7_wish 41 rfl) cl_X7 fl_X7_19 (ly_1000 (u2 σ (2000 + 3) (cn x) (f_replaced (σ (2000 + 3) (cn x)) (cn y) (nI (cn z)))) h) (by decide) rfl ?_
            refine sw_get (v := .ref (2000 + 3)) O (xx_dt dd_X7_wish 42 rfl) cl_X1 fl_X7_133 (lk_0 (u2 σ (2000 + 3) (cn x) (f_replaced (σ (2000 + 3) (cn x)) (cn y) (nI (cn z)))) h (.inl rfl)) (by decide) rfl ?_
            refine sw_iload_n O (xx_dt dd_X7_wish 43 rfl) rfl ?_
            refine sw_iaload (v := .int (f_replaced (σ (2000 + 3) (cn x)) (cn y) (nI (cn z)))) O (xx_dt dd_X7_wish 44 rfl) (lk_3 (u2 σ (2000 + 3) (cn x) (f_replaced (σ (2000 + 3) (cn x)) (cn y) (nI (cn z)))) h (.inl rfl)) (pk_in (cn x) _ (by omega)) (by rw [nI_clamp (by omega)]; exact (congrArg Value.int u2_at)) ?_
            refine sw_aload_n O (xx_dt dd_X7_wish 45 rfl) rfl ?_
            refine sw_get (v := .ref 1001) O (xx_dt dd_X7_wish 46 rfl) cl_X7 fl_X7_12 (ly_1000 (u2 σ (2000 + 3) (cn x) (f_replaced (σ (2000 + 3) (cn x)) (cn y) (nI (cn z)))) h) (by decide) rfl ?_
            refine sw_get (v := .ref 1011) O (xx_dt dd_X7_wish 47 rfl) cl_X6 fl_X7_142 (ly_1001 (u2 σ (2000 + 3) (cn x) (f_replaced (σ (2000 + 3) (cn x)) (cn y) (nI (cn z)))) h) (by decide) rfl ?_
            refine sw_callSx (as := [.int (f_replaced (σ (2000 + 3) (cn x)) (cn y) (nI (cn z))), .ref 1011]) (st := []) (st2 := [.int (f_total (f_replaced (σ (2000 + 3) (cn x)) (cn y) (nI (cn z))) 5 (σ 1011))]) O (ct_X0_total hl (c := f_replaced (σ (2000 + 3) (cn x)) (cn y) (nI (cn z))) (f := σ 1011) (ia_1011.getE (u2_ne (by omega))) (by omega)) ce_X0_total ml_X7_145 st_X0_total (xx_dt dd_X7_wish 48 rfl) (by decide) rfl rfl (Nat.le_of_ble_eq_true rfl) rfl ?_
            exact sw_iret O (xx_dt dd_X7_wish 49 rfl) rfl rfl (by rw [hQ]; exact ⟨by unfold o_wish; simp only [if_pos q1, if_pos q2, if_pos q3, if_pos q4, if_neg q5]; rfl, by unfold g_wish; simp only [if_pos q1, if_pos q2, if_pos q3, if_pos q4, if_neg q5]⟩)
          · exact sw_throw (k := 0) (n := 0) O ex_ISE th_X7_wish_38 (xx_dt dd_X7_wish 22 rfl) (xx_dt dd_X7_wish 23 rfl) (xx_dt dd_X7_wish 24 rfl) (xx_dt dd_X7_wish 25 rfl) (xx_dt dd_X7_wish 26 rfl) (by decide) (by decide) (by rw [hQ]; exact ⟨by unfold o_wish; simp only [if_pos q1, if_pos q2, if_pos q3, if_pos q4, if_pos q5]; rfl, by unfold g_wish; simp only [if_pos q1, if_pos q2, if_pos q3, if_pos q4, if_pos q5]⟩)
        · exact sw_callVt (as := [.int 1]) (st := []) (k := 0) (n := 0) (k' := 1) (n' := 6) O (ct_X7_needStage_no hl (σ := σ) q4) ce_X7_needStage ml_X7_65 iv_X7_needStage cl_X7 rfl (ly_1000 σ h) (xx_dt dd_X7_wish 12 rfl) (by decide) rfl rfl (Nat.le_of_ble_eq_true rfl)  (by rw [hQ]; exact ⟨by unfold o_wish; simp only [if_pos q1, if_pos q2, if_pos q3, if_neg q4]; rfl, by unfold g_wish; simp only [if_pos q1, if_pos q2, if_pos q3, if_neg q4]⟩)
      · exact sw_callSt (as := [.int z, .int 0, .int 5]) (st := []) (k := 0) (n := 0) (k' := 1) (n' := 6) O (ct_X7_needBetween_no hl  q3) ce_X7_needBetween ml_X7_61 st_X7_needBetween (xx_dt dd_X7_wish 9 rfl) (by decide) rfl rfl (Nat.le_of_ble_eq_true rfl)  (by rw [hQ]; exact ⟨by unfold o_wish; simp only [if_pos q1, if_pos q2, if_neg q3]; rfl, by unfold g_wish; simp only [if_pos q1, if_pos q2, if_neg q3]⟩)
    · exact sw_callVt (as := [.int y]) (st := []) (k := 0) (n := 0) (k' := 1) (n' := 6) O (ct_X7_needRegion_no hl (σ := σ) (R := R) hR (by omega) q2) ce_X7_needRegion ml_X7_87 iv_X7_needRegion cl_X7 rfl (ly_1000 σ h) (xx_dt dd_X7_wish 5 rfl) (by decide) rfl rfl (Nat.le_of_ble_eq_true rfl)  (by rw [hQ]; exact ⟨by unfold o_wish; simp only [if_pos q1, if_neg q2]; rfl, by unfold g_wish; simp only [if_pos q1, if_neg q2]⟩)
  · exact sw_callVt (as := [.int x]) (st := []) (k := 0) (n := 0) (k' := 1) (n' := 6) O (ct_X7_needBidder_no hl (σ := σ) (B := B) hB (by omega) q1) ce_X7_needBidder ml_X7_124 iv_X7_needBidder cl_X7 rfl (ly_1000 σ h) (xx_dt dd_X7_wish 2 rfl) (by decide) rfl rfl (Nat.le_of_ble_eq_true rfl)  (by rw [hQ]; exact ⟨by unfold o_wish; simp only [if_neg q1]; rfl, by unfold g_wish; simp only [if_neg q1]⟩)
def o_waive (σ : XS9) (x : Int32) (B : Nat) : Int32 ⊕ String := (if n_lt x B then (if σ 1000 7 = 1 then (if (σ (2000 + 5) (cn x)) ≤ 0 then .inr eISE else (if (f_hasWaived σ 2000 (cn x)) = 0 then .inl ((g_useWaiver σ 2000 (cn x)) (2000 + 5) (cn x)) else .inr eISE)) else .inr eISE) else .inr eIOB)
def g_waive (σ : XS9) (x : Int32) (B : Nat) : XS9 := (if n_lt x B then (if σ 1000 7 = 1 then (if (σ (2000 + 5) (cn x)) ≤ 0 then σ else (if (f_hasWaived σ 2000 (cn x)) = 0 then g_useWaiver σ 2000 (cn x) else σ)) else σ) else σ)
theorem ct_X7_waive {l : Launch} {h : XH} (hl : l.stackTraces = false) {σ : XS9} {B : Nat} (hB : σ 1001 9 = nI B) (hB6 : B ≤ 6) {x : Int32} : XEo l m_X7_waive 7 1 6 [.ref 1000, .int x] (setC σ h) ((xoi (o_waive σ x B))) (setC (g_waive σ x B) h) := by
  refine XMet.of hl rfl rfl (Nat.le_of_ble_eq_true rfl) (fun Y O hh hQ => ?_)
  show SW Y 1 6 (setC σ h) 0 [.ref 1000, .int x] []
  refine sw_aload_n O (xx_dt dd_X7_waive 0 rfl) rfl ?_
  refine sw_iload_n O (xx_dt dd_X7_waive 1 rfl) rfl ?_
  by_cases q1 : n_lt x B
  · refine sw_callVx (as := [.int x]) (st := []) (st2 := []) (k' := 0) (n' := 0) O (ct_X7_needBidder_ok hl (σ := σ) (B := B) hB (by omega) q1) ce_X7_needBidder ml_X7_124 iv_X7_needBidder cl_X7 rfl (ly_1000 σ h) (xx_dt dd_X7_waive 2 rfl) (by decide) rfl rfl (Nat.le_of_ble_eq_true rfl) rfl ?_
    refine sw_lsE (ls2 := [.ref 1000, .int (nI (cn x))]) (by rw [← q1.1]) ?_
    have hvq1 := q1.2
    refine sw_aload_n O (xx_dt dd_X7_waive 3 rfl) rfl ?_
    refine sw_iconst (x := 1) O (xx_dt dd_X7_waive 4 rfl) (by decide) ?_
    by_cases q2 : σ 1000 7 = 1
    · refine sw_callVx (as := [.int 1]) (st := []) (st2 := []) (k' := 0) (n' := 0) O (ct_X7_needStage_ok hl (σ := σ) q2) ce_X7_needStage ml_X7_65 iv_X7_needStage cl_X7 rfl (ly_1000 σ h) (xx_dt dd_X7_waive 5 rfl) (by decide) rfl rfl (Nat.le_of_ble_eq_true rfl) rfl ?_
      refine sw_aload_n O (xx_dt dd_X7_waive 6 rfl) rfl ?_
      refine sw_get (v := .ref 2000) O (xx_dt dd_X7_waive 7 rfl) cl_X7 fl_X7_19 (ly_1000 σ h) (by decide) rfl ?_
      refine sw_get (v := .ref (2000 + 5)) O (xx_dt dd_X7_waive 8 rfl) cl_X1 fl_X7_149 (lk_0 σ h (.inl rfl)) (by decide) rfl ?_
      refine sw_iload_n O (xx_dt dd_X7_waive 9 rfl) rfl ?_
      refine sw_iaload (v := .int (σ (2000 + 5) (cn x))) O (xx_dt dd_X7_waive 10 rfl) (lk_5 σ h (.inl rfl)) (pk_in (cn x) _ (by omega)) (by rw [nI_clamp (by omega)]; try exact rfl) ?_
      refine sw_if_le (tgt := 33) O (xx_dt dd_X7_waive 11 rfl) (by decide) (fun q3 => ?_) (fun q3 => ?_)
      · exact sw_throw (k := 0) (n := 0) O ex_ISE th_X7_waive_33 (xx_dt dd_X7_waive 17 rfl) (xx_dt dd_X7_waive 18 rfl) (xx_dt dd_X7_waive 19 rfl) (xx_dt dd_X7_waive 20 rfl) (xx_dt dd_X7_waive 21 rfl) (by decide) (by decide) (by rw [hQ]; exact ⟨by unfold o_waive; simp only [if_pos q1, if_pos q2, if_pos q3]; rfl, by unfold g_waive; simp only [if_pos q1, if_pos q2, if_pos q3]⟩)
      · refine sw_aload_n O (xx_dt dd_X7_waive 12 rfl) rfl ?_
        refine sw_get (v := .ref 2000) O (xx_dt dd_X7_waive 13 rfl) cl_X7 fl_X7_19 (ly_1000 σ h) (by decide) rfl ?_
        refine sw_iload_n O (xx_dt dd_X7_waive 14 rfl) rfl ?_
        refine sw_callVx (as := [.int (nI (cn x))]) (st := []) (st2 := [.int (f_hasWaived σ 2000 (cn x))]) O (ct_X1_hasWaived hl (σ := σ) (b := 2000) (.inl rfl) (i := cn x)) ce_X1_hasWaived ml_X7_152 iv_X1_hasWaived cl_X1 rfl (lk_0 σ h (.inl rfl)) (xx_dt dd_X7_waive 15 rfl) (by decide) rfl rfl (Nat.le_of_ble_eq_true rfl) rfl ?_
        refine sw_if_eq (tgt := 43) O (xx_dt dd_X7_waive 16 rfl) (by decide) (fun q4 => ?_) (fun q4 => ?_)
        · refine sw_aload_n O (xx_dt dd_X7_waive 22 rfl) rfl ?_
          refine sw_get (v := .ref 2000) O (xx_dt dd_X7_waive 23 rfl) cl_X7 fl_X7_19 (ly_1000 σ h) (by decide) rfl ?_
          refine sw_iload_n O (xx_dt dd_X7_waive 24 rfl) rfl ?_
          refine sw_callVx (as := [.int (nI (cn x))]) (st := []) (st2 := []) O (ct_X1_useWaiver hl (σ := σ) (b := 2000) (.inl rfl)  (i := cn x) (by omega)) ce_X1_useWaiver ml_X7_158 iv_X1_useWaiver cl_X1 rfl (lk_0 σ h (.inl rfl)) (xx_dt dd_X7_waive 25 rfl) (by decide) rfl rfl (Nat.le_of_ble_eq_true rfl) rfl ?_
          refine sw_aload_n O (xx_dt dd_X7_waive 26 rfl) rfl ?_
          refine sw_get (v := .ref 2000) O (xx_dt dd_X7_waive 27 rfl) cl_X7 fl_X7_19 (ly_1000 (g_useWaiver σ 2000 (cn x)) h) (by decide) rfl ?_
          refine sw_get (v := .ref (2000 + 5)) O (xx_dt dd_X7_waive 28 rfl) cl_X1 fl_X7_149 (lk_0 (g_useWaiver σ 2000 (cn x)) h (.inl rfl)) (by decide) rfl ?_
          refine sw_iload_n O (xx_dt dd_X7_waive 29 rfl) rfl ?_
          refine sw_iaload (v := .int ((g_useWaiver σ 2000 (cn x)) (2000 + 5) (cn x))) O (xx_dt dd_X7_waive 30 rfl) (lk_5 (g_useWaiver σ 2000 (cn x)) h (.inl rfl)) (pk_in (cn x) _ (by omega)) (by rw [nI_clamp (by omega)]; try exact rfl) ?_
          exact sw_iret O (xx_dt dd_X7_waive 31 rfl) rfl rfl (by rw [hQ]; exact ⟨by unfold o_waive; simp only [if_pos q1, if_pos q2, if_neg q3, if_pos q4]; rfl, by unfold g_waive; simp only [if_pos q1, if_pos q2, if_neg q3, if_pos q4]⟩)
        · exact sw_throw (k := 0) (n := 0) O ex_ISE th_X7_waive_33 (xx_dt dd_X7_waive 17 rfl) (xx_dt dd_X7_waive 18 rfl) (xx_dt dd_X7_waive 19 rfl) (xx_dt dd_X7_waive 20 rfl) (xx_dt dd_X7_waive 21 rfl) (by decide) (by decide) (by rw [hQ]; exact ⟨by unfold o_waive; simp only [if_pos q1, if_pos q2, if_neg q3, if_neg q4]; rfl, by unfold g_waive; simp only [if_pos q1, if_pos q2, if_neg q3, if_neg q4]⟩)
    · exact sw_callVt (as := [.int 1]) (st := []) (k := 0) (n := 0) (k' := 1) (n' := 6) O (ct_X7_needStage_no hl (σ := σ) q2) ce_X7_needStage ml_X7_65 iv_X7_needStage cl_X7 rfl (ly_1000 σ h) (xx_dt dd_X7_waive 5 rfl) (by decide) rfl rfl (Nat.le_of_ble_eq_true rfl)  (by rw [hQ]; exact ⟨by unfold o_waive; simp only [if_pos q1, if_neg q2]; rfl, by unfold g_waive; simp only [if_pos q1, if_neg q2]⟩)
  · exact sw_callVt (as := [.int x]) (st := []) (k := 0) (n := 0) (k' := 1) (n' := 6) O (ct_X7_needBidder_no hl (σ := σ) (B := B) hB (by omega) q1) ce_X7_needBidder ml_X7_124 iv_X7_needBidder cl_X7 rfl (ly_1000 σ h) (xx_dt dd_X7_waive 2 rfl) (by decide) rfl rfl (Nat.le_of_ble_eq_true rfl)  (by rw [hQ]; exact ⟨by unfold o_waive; simp only [if_neg q1]; rfl, by unfold g_waive; simp only [if_neg q1]⟩)
def o_station (σ : XS9) (x y : Int32) (R C : Nat) : Int32 ⊕ String := (if n_lt x R then (if n_bt y 1 9999 then (if (nI C) < 10 then .inl (f_add σ (nI (cn x)) y C) else .inr eISE) else .inr eIAE) else .inr eIOB)
def g_station (σ : XS9) (x y : Int32) (R C : Nat) : XS9 := (if n_lt x R then (if n_bt y 1 9999 then (if (nI C) < 10 then g_add σ (nI (cn x)) y C else σ) else σ) else σ)
theorem ct_X7_station {l : Launch} {h : XH} (hl : l.stackTraces = false) {σ : XS9} {R : Nat} (hR : σ 1001 4 = nI R) (hR5 : R ≤ 5) {C : Nat} (hC : σ 1006 1 = nI C) (hC10 : C ≤ 10) {x y : Int32} : XEo l m_X7_station 7 1 6 [.ref 1000, .int x, .int y] (setC σ h) ((xoi (o_station σ x y R C))) (setC (g_station σ x y R C) h) := by
  refine XMet.of hl rfl rfl (Nat.le_of_ble_eq_true rfl) (fun Y O hh hQ => ?_)
  show SW Y 1 6 (setC σ h) 0 [.ref 1000, .int x, .int y] []
  refine sw_aload_n O (xx_dt dd_X7_station 0 rfl) rfl ?_
  refine sw_iload_n O (xx_dt dd_X7_station 1 rfl) rfl ?_
  by_cases q1 : n_lt x R
  · refine sw_callVx (as := [.int x]) (st := []) (st2 := []) (k' := 0) (n' := 0) O (ct_X7_needRegion_ok hl (σ := σ) (R := R) hR (by omega) q1) ce_X7_needRegion ml_X7_87 iv_X7_needRegion cl_X7 rfl (ly_1000 σ h) (xx_dt dd_X7_station 2 rfl) (by decide) rfl rfl (Nat.le_of_ble_eq_true rfl) rfl ?_
    refine sw_lsE (ls2 := [.ref 1000, .int (nI (cn x)), .int y]) (by rw [← q1.1]) ?_
    have hvq1 := q1.2
    refine sw_iload_n O (xx_dt dd_X7_station 3 rfl) rfl ?_
    refine sw_iconst (x := 1) O (xx_dt dd_X7_station 4 rfl) (by decide) ?_
    refine sw_sipush (x := 9999) O (xx_dt dd_X7_station 5 rfl) (by decide) ?_
    by_cases q2 : n_bt y 1 9999
    · refine sw_callSx (as := [.int y, .int 1, .int 9999]) (st := []) (st2 := []) (k' := 0) (n' := 0) O (ct_X7_needBetween_ok hl  q2) ce_X7_needBetween ml_X7_61 st_X7_needBetween (xx_dt dd_X7_station 6 rfl) (by decide) rfl rfl (Nat.le_of_ble_eq_true rfl) rfl ?_
      refine sw_aload_n O (xx_dt dd_X7_station 7 rfl) rfl ?_
      refine sw_get (v := .ref 1006) O (xx_dt dd_X7_station 8 rfl) cl_X7 fl_X7_50 (ly_1000 σ h) (by decide) rfl ?_
      refine sw_get (v := .int (nI C)) O (xx_dt dd_X7_station 9 rfl) cl_X5 fl_X7_215 (ly_1006 σ h) (by decide) (congrArg Value.int hC) ?_
      refine sw_bipush (x := 10) O (xx_dt dd_X7_station 10 rfl) (by decide) ?_
      refine sw_icmp_lt (tgt := 35) O (xx_dt dd_X7_station 11 rfl) (by decide) (fun q3 => ?_) (fun q3 => ?_)
      · have hfq3 : C < 10 := (nI_ltI (a := C) (b := 10) (by omega) (by omega)).mp q3
        refine sw_aload_n O (xx_dt dd_X7_station 17 rfl) rfl ?_
        refine sw_get (v := .ref 1006) O (xx_dt dd_X7_station 18 rfl) cl_X7 fl_X7_50 (ly_1000 σ h) (by decide) rfl ?_
        refine sw_iload_n O (xx_dt dd_X7_station 19 rfl) rfl ?_
        refine sw_iload_n O (xx_dt dd_X7_station 20 rfl) rfl ?_
        refine sw_callVx (as := [.int (nI (cn x)), .int y]) (st := []) (st2 := [.int (f_add σ (nI (cn x)) y C)]) O (ct_X5_add hl (σ := σ) (C := C) hC (by omega) (x := nI (cn x)) (y := y)) ce_X5_add ml_X7_220 iv_X5_add cl_X5 rfl (ly_1006 σ h) (xx_dt dd_X7_station 21 rfl) (by decide) rfl rfl (Nat.le_of_ble_eq_true rfl) rfl ?_
        exact sw_iret O (xx_dt dd_X7_station 22 rfl) rfl rfl (by rw [hQ]; exact ⟨by unfold o_station; simp only [if_pos q1, if_pos q2, if_pos q3]; rfl, by unfold g_station; simp only [if_pos q1, if_pos q2, if_pos q3]⟩)
      · have hfq3 : ¬ C < 10 := fun e => q3 ((nI_ltI (a := C) (b := 10) (by omega) (by omega)).mpr e)
        exact sw_throw (k := 0) (n := 0) O ex_ISE th_X7_station_25 (xx_dt dd_X7_station 12 rfl) (xx_dt dd_X7_station 13 rfl) (xx_dt dd_X7_station 14 rfl) (xx_dt dd_X7_station 15 rfl) (xx_dt dd_X7_station 16 rfl) (by decide) (by decide) (by rw [hQ]; exact ⟨by unfold o_station; simp only [if_pos q1, if_pos q2, if_neg q3]; rfl, by unfold g_station; simp only [if_pos q1, if_pos q2, if_neg q3]⟩)
    · exact sw_callSt (as := [.int y, .int 1, .int 9999]) (st := []) (k := 0) (n := 0) (k' := 1) (n' := 6) O (ct_X7_needBetween_no hl  q2) ce_X7_needBetween ml_X7_61 st_X7_needBetween (xx_dt dd_X7_station 6 rfl) (by decide) rfl rfl (Nat.le_of_ble_eq_true rfl)  (by rw [hQ]; exact ⟨by unfold o_station; simp only [if_pos q1, if_neg q2]; rfl, by unfold g_station; simp only [if_pos q1, if_neg q2]⟩)
  · exact sw_callVt (as := [.int x]) (st := []) (k := 0) (n := 0) (k' := 1) (n' := 6) O (ct_X7_needRegion_no hl (σ := σ) (R := R) hR (by omega) q1) ce_X7_needRegion ml_X7_87 iv_X7_needRegion cl_X7 rfl (ly_1000 σ h) (xx_dt dd_X7_station 2 rfl) (by decide) rfl rfl (Nat.le_of_ble_eq_true rfl)  (by rw [hQ]; exact ⟨by unfold o_station; simp only [if_neg q1]; rfl, by unfold g_station; simp only [if_neg q1]⟩)
def o_ask (σ : XS9) (x y : Int32) (C : Nat) : Int32 ⊕ String := (if n_lt x C then (if n_bt y 1 9999 then .inl (σ 1150 (cn x)) else .inr eIAE) else .inr eIOB)
def g_ask (σ : XS9) (x y : Int32) (C : Nat) : XS9 := (if n_lt x C then (if n_bt y 1 9999 then u2 σ 1150 (cn x) y else σ) else σ)
theorem ct_X7_ask {l : Launch} {h : XH} (hl : l.stackTraces = false) {σ : XS9} {C : Nat} (hC : σ 1006 1 = nI C) (hC10 : C ≤ 10) {x y : Int32} : XEo l m_X7_ask 7 1 6 [.ref 1000, .int x, .int y] (setC σ h) ((xoi (o_ask σ x y C))) (setC (g_ask σ x y C) h) := by
  refine XMet.of hl rfl rfl (Nat.le_of_ble_eq_true rfl) (fun Y O hh hQ => ?_)
  show SW Y 1 6 (setC σ h) 0 [.ref 1000, .int x, .int y, xx_d] []
  refine sw_aload_n O (xx_dt dd_X7_ask 0 rfl) rfl ?_
  refine sw_iload_n O (xx_dt dd_X7_ask 1 rfl) rfl ?_
  by_cases q1 : n_lt x C
  · refine sw_callVx (as := [.int x]) (st := []) (st2 := []) (k' := 0) (n' := 0) O (ct_X7_needStation_ok hl (σ := σ) (C := C) hC (by omega) q1) ce_X7_needStation ml_X7_222 iv_X7_needStation cl_X7 rfl (ly_1000 σ h) (xx_dt dd_X7_ask 2 rfl) (by decide) rfl rfl (Nat.le_of_ble_eq_true rfl) rfl ?_
    refine sw_lsE (ls2 := [.ref 1000, .int (nI (cn x)), .int y, xx_d]) (by rw [← q1.1]) ?_
    have hvq1 := q1.2
    refine sw_iload_n O (xx_dt dd_X7_ask 3 rfl) rfl ?_
    refine sw_iconst (x := 1) O (xx_dt dd_X7_ask 4 rfl) (by decide) ?_
    refine sw_sipush (x := 9999) O (xx_dt dd_X7_ask 5 rfl) (by decide) ?_
    by_cases q2 : n_bt y 1 9999
    · refine sw_callSx (as := [.int y, .int 1, .int 9999]) (st := []) (st2 := []) (k' := 0) (n' := 0) O (ct_X7_needBetween_ok hl  q2) ce_X7_needBetween ml_X7_61 st_X7_needBetween (xx_dt dd_X7_ask 6 rfl) (by decide) rfl rfl (Nat.le_of_ble_eq_true rfl) rfl ?_
      refine sw_aload_n O (xx_dt dd_X7_ask 7 rfl) rfl ?_
      refine sw_get (v := .ref 1006) O (xx_dt dd_X7_ask 8 rfl) cl_X7 fl_X7_50 (ly_1000 σ h) (by decide) rfl ?_
      refine sw_get (v := .ref 1150) O (xx_dt dd_X7_ask 9 rfl) cl_X5 fl_X7_225 (ly_1006 σ h) (by decide) rfl ?_
      refine sw_iload_n O (xx_dt dd_X7_ask 10 rfl) rfl ?_
      refine sw_iaload (v := .int (σ 1150 (cn x))) O (xx_dt dd_X7_ask 11 rfl) (ly_1150 σ h) (pk_in (cn x) _ (by omega)) (by rw [nI_clamp (by omega)]; try exact rfl) ?_
      refine sw_istore_n (ls2 := [.ref 1000, .int (nI (cn x)), .int y, .int (σ 1150 (cn x))]) O (xx_dt dd_X7_ask 12 rfl) (by decide) rfl ?_
      refine sw_aload_n O (xx_dt dd_X7_ask 13 rfl) rfl ?_
      refine sw_get (v := .ref 1006) O (xx_dt dd_X7_ask 14 rfl) cl_X7 fl_X7_50 (ly_1000 σ h) (by decide) rfl ?_
      refine sw_get (v := .ref 1150) O (xx_dt dd_X7_ask 15 rfl) cl_X5 fl_X7_225 (ly_1006 σ h) (by decide) rfl ?_
      refine sw_iload_n O (xx_dt dd_X7_ask 16 rfl) rfl ?_
      refine sw_iload_n O (xx_dt dd_X7_ask 17 rfl) rfl ?_
      refine sw_iastore (h2 := setC (u2 σ 1150 (cn x) y) h) O (xx_dt dd_X7_ask 18 rfl) (ly_1150 σ h) (pk_in (cn x) _ (by omega)) (by decide) (by rw [nI_clamp (by omega)]; exact pa_1150) ?_
      refine sw_iload_n O (xx_dt dd_X7_ask 19 rfl) rfl ?_
      exact sw_iret O (xx_dt dd_X7_ask 20 rfl) rfl rfl (by rw [hQ]; exact ⟨by unfold o_ask; simp only [if_pos q1, if_pos q2]; rfl, by unfold g_ask; simp only [if_pos q1, if_pos q2]⟩)
    · exact sw_callSt (as := [.int y, .int 1, .int 9999]) (st := []) (k := 0) (n := 0) (k' := 1) (n' := 6) O (ct_X7_needBetween_no hl  q2) ce_X7_needBetween ml_X7_61 st_X7_needBetween (xx_dt dd_X7_ask 6 rfl) (by decide) rfl rfl (Nat.le_of_ble_eq_true rfl)  (by rw [hQ]; exact ⟨by unfold o_ask; simp only [if_pos q1, if_neg q2]; rfl, by unfold g_ask; simp only [if_pos q1, if_neg q2]⟩)
  · exact sw_callVt (as := [.int x]) (st := []) (k := 0) (n := 0) (k' := 1) (n' := 6) O (ct_X7_needStation_no hl (σ := σ) (C := C) hC (by omega) q1) ce_X7_needStation ml_X7_222 iv_X7_needStation cl_X7 rfl (ly_1000 σ h) (xx_dt dd_X7_ask 2 rfl) (by decide) rfl rfl (Nat.le_of_ble_eq_true rfl)  (by rw [hQ]; exact ⟨by unfold o_ask; simp only [if_neg q1]; rfl, by unfold g_ask; simp only [if_neg q1]⟩)
def f_knock (σ : XS9)  : Int32 := (σ 1000 11) + 1
def g_knock (σ : XS9)  : XS9 := u2 σ 1000 11 ((σ 1000 11) + 1)
theorem ct_X7_knock {l : Launch} {h : XH} (hl : l.stackTraces = false) {σ : XS9}  : XEx l m_X7_knock 0 0 0 [.ref 1000] (setC σ h) (some (.int (f_knock σ))) (setC (g_knock σ) h) := by
  refine XMet.of hl rfl rfl (Nat.le_of_ble_eq_true rfl) (fun Y O hh hQ => ?_)
  show SW Y 0 0 (setC σ h) 0 [.ref 1000] []
  refine sw_aload_n O (xx_dt dd_X7_knock 0 rfl) rfl ?_
  refine sw_dup O (xx_dt dd_X7_knock 1 rfl) rfl ?_
  refine sw_get (v := .int (σ 1000 11)) O (xx_dt dd_X7_knock 2 rfl) cl_X7 fl_X7_333 (ly_1000 σ h) (by decide) rfl ?_
  refine sw_iconst (x := 1) O (xx_dt dd_X7_knock 3 rfl) (by decide) ?_
  refine sw_iadd O (xx_dt dd_X7_knock 4 rfl) ?_
  refine sw_put (h2 := setC (u2 σ 1000 11 ((σ 1000 11) + 1)) h) O (xx_dt dd_X7_knock 5 rfl) cl_X7 fl_X7_333 (ly_1000 σ h) (by decide) (by decide) rfl (fun _ => ⟨rfl, rfl⟩) pu_1000_11 ?_
  refine sw_aload_n O (xx_dt dd_X7_knock 6 rfl) rfl ?_
  refine sw_get (v := .int ((σ 1000 11) + 1)) O (xx_dt dd_X7_knock 7 rfl) cl_X7 fl_X7_333 (ly_1000 (u2 σ 1000 11 ((σ 1000 11) + 1)) h) (by decide) rfl ?_
  exact sw_iret O (xx_dt dd_X7_knock 8 rfl) rfl rfl (by rw [hQ]; exact ⟨by unfold f_knock; rfl, by unfold g_knock; rfl⟩)
end
