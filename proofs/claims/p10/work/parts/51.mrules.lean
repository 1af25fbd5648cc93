/-! ===== arrays and fields of the reference ===== -/
theorem notCtl {r : Nat} (h : (r < 5001 ∨ (5005 ≤ r ∧ r < 5030) ∨ 5040 ≤ r) ∧ r ≠ 7000 ∧ r ≠ 8000 ∧ r ≠ 9000 ∧ r < 20000) (i : Nat) : isCtl r i = false := by
  unfold isCtl
  have f1 : ∀ a b : Nat, b < a → Nat.ble a b = false := fun a b e => Bool.eq_false_iff.mpr (fun q => by have := Nat.le_of_ble_eq_true q; omega)
  have f2 : ∀ a b : Nat, a ≠ b → Nat.beq a b = false := fun a b e => Bool.eq_false_iff.mpr (fun q => e (Nat.eq_of_beq_eq_true q))
  rw [f2 r 5004 (by omega), f2 r 7000 h.2.1, f2 r 8000 h.2.2.1, f2 r 9000 h.2.2.2.1, f1 20000 r h.2.2.2.2]
  rcases h.1 with q | q | q
  · rw [f1 5001 r q, f1 5030 r (by omega)]; simp
  · rw [f1 r 5003 (by omega), f1 5030 r (by omega)]; simp
  · rw [f1 r 5003 (by omega), f1 r 5039 (by omega)]; simp
theorem isM.mk {z : Int64} {σ : XS9} {r n : Nat} (h : (r < 5001 ∨ (5005 ≤ r ∧ r < 5030) ∨ 5040 ≤ r) ∧ r ≠ 7000 ∧ r ≠ 8000 ∧ r ≠ 9000 ∧ r < 20000) (h1 : 5000 ≤ r) (hn : n < 900) (hl : ∀ s, lyQ z (ctl σ) r s = some (100, n, fun k => .int (s k))) : isM z σ r n := ⟨by omega, fun i _ _ => notCtl h i, .inr (notCtl h), hn, hl⟩
theorem fl1 {x : Int32} (h : x = nI 1) : ¬ x = 0 := by rw [h]; decide
theorem isM.putR {z : Int64} {σ : XS9} {r n : Nat} {x : Nat → Int32} (a : isM z σ r n) (h : (r < 5001 ∨ (5005 ≤ r ∧ r < 5030) ∨ 5040 ≤ r) ∧ r ≠ 7000 ∧ r ≠ 8000 ∧ r ≠ 9000 ∧ r < 20000) {h0 : XH} : xx_up (setM z σ h0) r (100, n, fun k => .int (x k)) = setM z (uR σ r x) h0 :=
  putMR (F := fun s k => .int (s k)) a.1 (fun i e => by rw [notCtl h i] at e; cases e) a.2.2.2.2
theorem im_5005 {z : Int64} {σ : XS9}  : isM z σ 5005 6 := isM.mk (by omega) (by omega) (by omega) (fun s => lq_5005  s)
theorem im_5006 {z : Int64} {σ : XS9}  : isM z σ 5006 6 := isM.mk (by omega) (by omega) (by omega) (fun s => lq_5006  s)
theorem im_5007 {z : Int64} {σ : XS9}  : isM z σ 5007 5 := isM.mk (by omega) (by omega) (by omega) (fun s => lq_5007  s)
theorem im_rpr {z : Int64} {σ : XS9} {R : Nat} (hR : σ 5001 900 = nI R) (hR5 : R ≤ 5) {K : Nat} (hK : σ 5003 900 = nI K) (hK60 : K ≤ 60) {j : Nat} (hj : j < K) : isM z σ (6000 + j) R := isM.mk (by omega) (by omega) (by omega) (fun s => lq_rpr hR hR5 hK hK60 hj s)
theorem im_rwi {z : Int64} {σ : XS9} {K : Nat} (hK : σ 5003 900 = nI K) (hK60 : K ≤ 60) {j : Nat} (hj : j < K) : isM z σ (6100 + j) 6 := isM.mk (by omega) (by omega) (by omega) (fun s => lq_rwi hK hK60 hj s)
theorem im_rhe {z : Int64} {σ : XS9} {K : Nat} (hK : σ 5003 900 = nI K) (hK60 : K ≤ 60) {j : Nat} (hj : j < K) : isM z σ (6200 + j) 6 := isM.mk (by omega) (by omega) (by omega) (fun s => lq_rhe hK hK60 hj s)
theorem im_kpr {z : Int64} {σ : XS9} {b : Nat} (hb : b = 7000 ∨ b = 8000) (hf : σ b 20 = nI 1) {R : Nat} (hR : σ 5001 900 = nI R) (hR5 : R ≤ 5)  : isM z σ (b + 1) R := isM.mk (by omega) (by omega) (by omega) (fun s => lq_kpr hb (fl1 hf) hR hR5 s)
theorem im_khe {z : Int64} {σ : XS9} {b : Nat} (hb : b = 7000 ∨ b = 8000) (hf : σ b 20 = nI 1)  : isM z σ (b + 2) 6 := isM.mk (by omega) (by omega) (by omega) (fun s => lq_khe hb (fl1 hf) s)
theorem im_kel {z : Int64} {σ : XS9} {b : Nat} (hb : b = 7000 ∨ b = 8000) (hf : σ b 20 = nI 1)  : isM z σ (b + 3) 6 := isM.mk (by omega) (by omega) (by omega) (fun s => lq_kel hb (fl1 hf) s)
theorem im_kwv {z : Int64} {σ : XS9} {b : Nat} (hb : b = 7000 ∨ b = 8000) (hf : σ b 20 = nI 1)  : isM z σ (b + 4) 6 := isM.mk (by omega) (by omega) (by omega) (fun s => lq_kwv hb (fl1 hf) s)
theorem im_kco {z : Int64} {σ : XS9} {b : Nat} (hb : b = 7000 ∨ b = 8000) (hf : σ b 20 = nI 1)  : isM z σ (b + 5) 6 := isM.mk (by omega) (by omega) (by omega) (fun s => lq_kco hb (fl1 hf) s)
theorem im_opr {z : Int64} {σ : XS9} {b : Nat} (hb : b = 7000 ∨ b = 8000) (hf : σ b 20 = nI 1) {R : Nat} (hR : σ 5001 900 = nI R) (hR5 : R ≤ 5) {n : Nat} (hn : σ b 21 = nI n) (hn60 : n ≤ 60) {j : Nat} (hj : j < n) : isM z σ (b + 100 + j) R := isM.mk (by omega) (by omega) (by omega) (fun s => lq_opr hb (fl1 hf) hR hR5 hn hn60 hj s)
theorem im_ohe {z : Int64} {σ : XS9} {b : Nat} (hb : b = 7000 ∨ b = 8000) (hf : σ b 20 = nI 1) {n : Nat} (hn : σ b 22 = nI n) (hn60 : n ≤ 60) {j : Nat} (hj : j < n) : isM z σ (b + 200 + j) 6 := isM.mk (by omega) (by omega) (by omega) (fun s => lq_ohe hb (fl1 hf) hn hn60 hj s)
theorem im_wsh {z : Int64} {σ : XS9} {b : Nat} (hb : b = 7000 ∨ b = 8000) (hf : σ b 20 = nI 1) {g : Nat} (hg : σ b 23 = nI g) (hg1 : g < 200) {j : Nat} (hj : j ≤ g) : isM z σ (b + 500 + j) 6 := isM.mk (by omega) (by omega) (by omega) (fun s => lq_wsh hb (fl1 hf) hg hg1 hj s)
theorem im_9001 {z : Int64} {σ : XS9} (hc : σ 9000 20 = nI 1) : isM z σ 9001 6 := isM.mk (by omega) (by omega) (by omega) (fun s => lq_9001 (fl1 hc) s)
theorem im_9002 {z : Int64} {σ : XS9} (hc : σ 9000 20 = nI 1) : isM z σ 9002 6 := isM.mk (by omega) (by omega) (by omega) (fun s => lq_9002 (fl1 hc) s)
theorem im_9003 {z : Int64} {σ : XS9} (hc : σ 9000 20 = nI 1) : isM z σ 9003 64 := isM.mk (by omega) (by omega) (by omega) (fun s => lq_9003 (fl1 hc) s)
theorem im_9004 {z : Int64} {σ : XS9} (hc : σ 9000 20 = nI 1) : isM z σ 9004 5 := isM.mk (by omega) (by omega) (by omega) (fun s => lq_9004 (fl1 hc) s)
theorem im_9005 {z : Int64} {σ : XS9} (hc : σ 9000 20 = nI 1) : isM z σ 9005 20 := isM.mk (by omega) (by omega) (by omega) (fun s => lq_9005 (fl1 hc) s)
theorem pm_mod {z : Int64} {σ : XS9} {h : XH} {x : Int32} {i : Nat} (hi : i < 8) : xx_up (setM z σ h) 5000 (20, 17, updV (fun k => match k with | 8 => .ref 5001 | 9 => .ref 5002 | 10 => .ref 5003 | 11 => .ref 5004 | 12 => (if σ 7000 25 = 0 then .null else .ref 7000) | 13 => .ref 5005 | 14 => .ref 5006 | 15 => .ref 5007 | 16 => .long z | k => .int ((σ 5000) k)) i (.int x)) = setM z (u2 σ 5000 i x) h :=
  putM (F := fun s => fun k => match k with | 8 => .ref 5001 | 9 => .ref 5002 | 10 => .ref 5003 | 11 => .ref 5004 | 12 => (if σ 7000 25 = 0 then .null else .ref 7000) | 13 => .ref 5005 | 14 => .ref 5006 | 15 => .ref 5007 | 16 => .long z | k => .int (s k)) (by omega) (notCtl (by omega) i) lq_mod (fun s => by
    funext j
    unfold updV
    by_cases e : j = i
    · subst e
      rw [if_pos rfl]
      (repeat' split) <;> first | omega | (rw [if_pos rfl]; done) | simp_all
    · rw [if_neg e]
      (repeat' split) <;> simp_all)
theorem pm_reg {z : Int64} {σ : XS9} {h : XH} {x : Int32} {i : Nat} {R : Nat} (hR : σ 5001 900 = nI R) (hR5 : R ≤ 5) {j : Nat} (hj : j < R) : xx_up (setM z σ h) (5010 + j) (18, 4, updV (fun k => .int (σ (5010 + j) k)) i (.int x)) = setM z (u2 σ (5010 + j) i x) h :=
  putM (F := fun s k => .int (s k)) (by omega) (notCtl (by omega) i) (lq_reg hR hR5 hj) (fun s => by funext j; unfold updV; split <;> simp_all)
theorem pm_bid {z : Int64} {σ : XS9} {h : XH} {x : Int32} {i : Nat} (hi : i < 5) {B : Nat} (hB : σ 5002 900 = nI B) (hB6 : B ≤ 6) {j : Nat} (hj : j < B) : xx_up (setM z σ h) (5020 + j) (15, 6, updV (fun k => if k = 5 then .ref (5030 + j) else .int (σ (5020 + j) k)) i (.int x)) = setM z (u2 σ (5020 + j) i x) h :=
  putM (F := fun s k => if k = 5 then .ref (5030 + j) else .int (s k)) (by omega) (notCtl (by omega) i) (lq_bid hB hB6 hj) (fun s => by
    funext q
    unfold updV
    by_cases e : q = i
    · subst e
      rw [if_pos rfl, if_neg (by omega)]
      simp only [if_pos]
    · rw [if_neg e]
      by_cases e5 : q = 5
      · simp only [if_pos e5]
      · simp only [if_neg e5, if_neg e])
theorem isCb {b i : Nat} (hb : b = 7000 ∨ b = 8000) (hi : i < 20) : isCtl b i = false := by
  have f1 : Nat.ble 20 i = false := Bool.eq_false_iff.mpr (fun q => by have := Nat.le_of_ble_eq_true q; omega)
  unfold isCtl
  rcases hb with rfl | rfl <;> rw [f1] <;> rfl
theorem isC9 {i : Nat} (hi : i < 20) : isCtl 9000 i = false := by
  have f1 : Nat.ble 20 i = false := Bool.eq_false_iff.mpr (fun q => by have := Nat.le_of_ble_eq_true q; omega)
  unfold isCtl
  rw [f1]
  rfl
theorem pm_clk {z : Int64} {σ : XS9} {h : XH} {x : Int32} {b : Nat} (hb : b = 7000 ∨ b = 8000) (hf : σ b 20 = nI 1) {g : Nat} (hg : σ b 23 = nI g) (hg1 : g < 200) {w : Nat} (hw : σ b 24 = nI w) (hw1 : w < 200)  : xx_up (setM z σ h) b (17, 11, updV (fun k => match k with | 0 => .ref (b + 1) | 1 => .ref (b + 2) | 2 => .ref (b + 500 + g) | 3 => .ref (b + 700 + w) | 4 => .ref (b + 3) | 5 => .ref (b + 4) | 6 => .ref (b + 5) | 7 => .ref (b + 6) | 8 => .ref (b + 7) | 9 => .int (σ b 9) | 10 => .ref 5000 | _ => .null) 9 (.int x)) = setM z (u2 σ b 9 x) h :=
  putM (F := fun s k => match k with | 0 => .ref (b + 1) | 1 => .ref (b + 2) | 2 => .ref (b + 500 + g) | 3 => .ref (b + 700 + w) | 4 => .ref (b + 3) | 5 => .ref (b + 4) | 6 => .ref (b + 5) | 7 => .ref (b + 6) | 8 => .ref (b + 7) | 9 => .int (s 9) | 10 => .ref 5000 | _ => .null) (by omega) (isCb hb (by omega)) (lq_clk hb (fl1 hf) hg hg1 hw hw1) (fun s => by
    funext j
    unfold updV
    by_cases e : j = 9
    · subst e; rfl
    · rw [if_neg e]; split <;> simp_all)
theorem pm_cho {z : Int64} {σ : XS9} {h : XH} {x : Int32} (hc : σ 9000 20 = nI 1) : xx_up (setM z σ h) 9000 (16, 7, updV (fun k => match k with | 0 => .ref 9001 | 1 => .ref 9002 | 2 => .ref 9003 | 3 => .ref 9004 | 4 => .ref 9005 | 6 => .ref 5000 | k => .int ((σ 9000) k)) 5 (.int x)) = setM z (u2 σ 9000 5 x) h :=
  putM (F := fun s k => match k with | 0 => .ref 9001 | 1 => .ref 9002 | 2 => .ref 9003 | 3 => .ref 9004 | 4 => .ref 9005 | 6 => .ref 5000 | k => .int (s k)) (by omega) (isC9 (by omega)) (lq_9000 (fl1 hc)) (fun s => by
    funext j
    unfold updV
    by_cases e : j = 5
    · subst e; rfl
    · rw [if_neg e]; split <;> simp_all)
theorem pm_hwa {z : Int64} {σ : XS9} {h : XH} {x : Int32} {i : Nat} {b : Nat} (hb : b = 7000 ∨ b = 8000) (hf : σ b 20 = nI 1) {w : Nat} (hw : σ b 24 = nI w) (hw1 : w < 200) {j : Nat} (hj : j ≤ w) : xx_up (setM z σ h) (b + 700 + j) (101, 6, updV (fun k => .int (σ (b + 700 + j) k)) i (.int x)) = setM z (u2 σ (b + 700 + j) i x) h :=
  putM (F := fun s k => .int (s k)) (by omega) (notCtl (by omega) i) (lq_hwa hb (fl1 hf) hw hw1 hj) (fun s => by funext j; unfold updV; split <;> simp_all)
/-! ===== what lies outside of the reference ===== -/
def xx_bs (h : XH) : Prop := (∃ f0, h 0 = some (104, 0, f0)) ∧ (∃ c3, h 3 = some c3) ∧ h 1 = some (105, 256, fun j => .ref (200 + j)) ∧ (∀ j, j < 256 → h (200 + j) = some (2, 1, fun _ => .int (nI j - 128))) ∧ h 19990 = none ∧ h 19991 = none
theorem bs_up {h : XH} {r : Nat} {c : XC} (hb : xx_bs h) (h1 : 1000 ≤ r) (h2 : r ≠ 19990) (h3 : r ≠ 19991) : xx_bs (xx_up h r c) := by
  obtain ⟨⟨f0, a1⟩, ⟨c3, a2⟩, a3, a4, a5, a6⟩ := hb
  exact ⟨⟨f0, (xx_up_ne (by omega)).trans a1⟩, ⟨c3, (xx_up_ne (by omega)).trans a2⟩, (xx_up_ne (by omega)).trans a3, fun j hj => (xx_up_ne (by omega)).trans (a4 j hj), (xx_up_ne (by omega)).trans a5, (xx_up_ne (by omega)).trans a6⟩
theorem setM_no2 {z : Int64} {σ : XS9} {h : XH} (hb : xx_bs h) : setM z σ h 19990 = none ∧ setM z σ h 19991 = none := by
  have e : ∀ r s, 10300 ≤ r → r < 20000 → lyQ z (ctl σ) r s = none := fun r s h1 h2 => by
    unfold lyQ
    rw [if_neg (by omega), if_neg (by omega), if_neg (by omega), if_neg (by omega), if_neg (by omega), if_neg (by omega), if_neg (by omega), if_neg (by omega), if_neg (by omega), if_neg (by omega), if_neg (by omega), if_neg (by omega), if_neg (by omega), if_neg (by omega), if_neg (by omega), if_neg (by omega), if_neg (by omega), if_neg (by omega), if_pos (by omega)]
  exact ⟨(setM_no (e _ _ (by omega) (by omega))).trans hb.2.2.2.2.1, (setM_no (e _ _ (by omega) (by omega))).trans hb.2.2.2.2.2⟩
theorem ct_get {l : Launch} {z : Int64} {σ : XS9} {h : XH} (hl : l.stackTraces = false) (hbs : xx_bs h) {r n : Nat} {f : Nat → Value} (hc : setM z σ h r = some (206, n, f)) (h1 : 1000 ≤ r) {i x : Nat} (hi : i < n) (hn : n < 2147483648) (hx : f i = .ref x) : XEx l m_Jx4a65c_get_915e3 2 0 0 [.ref r, .int (nI i)] (setM z σ h) (some (.ref x)) (setM z σ h) := by
  obtain ⟨f0, a1⟩ := hbs.1
  exact ct_AL_get hl hc (e := 19990) (setM_no2 hbs).1 (by omega) h1 (f0 := f0) ((setM_out (by omega)).trans a1) hi hn hx
theorem small_eq {v : Int32} (h : xx_small v) : nI (cn (v + 128)) - 128 = v := by
  rw [← (small_nat h).1]
  exact Int32.add_sub_cancel v 128
theorem lm_pbox {z : Int64} {σ : XS9} {h : XH} (hbs : xx_bs h) {B : Nat} (hB : σ 5002 900 = nI B) (hB6 : B ≤ 6) {j : Nat} (hj : j < B) {p : Nat} (hp : σ (5030 + j) 900 = nI p) (hp20 : p ≤ 20) {k : Nat} (hk : k < p) : setM z σ h (xx_box (σ (5030 + j) k) (nmP j k)) = some (2, 1, fun _ => .int (σ (5030 + j) k)) := by
  unfold xx_box
  split
  · rename_i hs
    have := (small_nat hs).2
    rw [setM_out (by omega), hbs.2.2.2.1 _ this, small_eq hs]
  · rename_i hs
    exact lm_pint hB hB6 hj hp hp20 hk hs
theorem lm_sbox {z : Int64} {σ : XS9} {h : XH} (hbs : xx_bs h) {S : Nat} (hS : σ 5004 900 = nI S) (hS20 : S ≤ 20) {k : Nat} (hk : k < S) : setM z σ h (xx_box (σ 5004 k) (nmS σ k)) = some (2, 1, fun _ => .int (σ 5004 k)) := by
  unfold xx_box
  split
  · rename_i hs
    have := (small_nat hs).2
    rw [setM_out (by omega), hbs.2.2.2.1 _ this, small_eq hs]
  · rename_i hs
    exact lm_sint hS hS20 hk hs
abbrev bZ (p : Prop) [Decidable p] : Int32 := if p then 1 else 0
theorem bZ_or {p : Prop} [Decidable p] : bZ p = 0 ∨ bZ p = 1 := by unfold bZ; split <;> simp
theorem bZ_0 {p : Prop} [Decidable p] : bZ p = 0 ↔ ¬ p := by unfold bZ; split <;> simp_all
section
variable {Y : XY} {M : XM} {l : Launch} {d k n : Nat} {h : XH} {pc : Nat} {ls st : List Value}
theorem sw_if_eqB {p : Prop} [Decidable p] {off : Int} {tgt : Nat} (O : xx_O Y M l d) (hd : decode M.2.1 pc = .ok (.ifCond .eq off, 3)) (ht : (pc : Int) + off = (tgt : Int)) (kt : ¬ p → SW Y k n h tgt ls st) (kf : p → SW Y k n h (pc + 3) ls st) : SW Y k n h pc ls (.int (bZ p) :: st) :=
  sw_if_eq O hd ht (fun e => kt (bZ_0.mp e)) (fun e => kf (Decidable.of_not_not (fun q => e (bZ_0.mpr q))))
theorem sw_if_neB {p : Prop} [Decidable p] {off : Int} {tgt : Nat} (O : xx_O Y M l d) (hd : decode M.2.1 pc = .ok (.ifCond .ne off, 3)) (ht : (pc : Int) + off = (tgt : Int)) (kt : p → SW Y k n h tgt ls st) (kf : ¬ p → SW Y k n h (pc + 3) ls st) : SW Y k n h pc ls (.int (bZ p) :: st) :=
  sw_if_ne O hd ht (fun e => kt (Decidable.of_not_not (fun q => e (bZ_0.mpr q)))) (fun e => kf (bZ_0.mp e))
end
