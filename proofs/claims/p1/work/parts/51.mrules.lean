section
/-! ===== arrays and fields of the reference ===== -/
theorem notCtl {r : Nat} (h : (r < 5001 ∨ (5005 ≤ r ∧ r < 5030) ∨ 5040 ≤ r) ∧ r ≠ 7000 ∧ r ≠ 8000 ∧ r ≠ 9000 ∧ r < 20000) (i : Nat) : isCtl r i = false := by
  unfold isCtl
  have f1 : ∀ a b : Nat, b < a → Nat.ble a b = false := fun a b e => Bool.eq_false_iff.mpr (fun q => by have := Nat.le_of_ble_eq_true q; omega)
  have f2 : ∀ a b : Nat, a ≠ b → Nat.beq a b = false := fun a b e => Bool.eq_false_iff.mpr (fun q => e (Nat.eq_of_beq_eq_true q))
  rw [f2 r 5004 (by omega), f2 r 7000 h.2.1, f2 r 8000 h.2.2.1, f2 r 9000 h.2.2.2.1, f1 20000 r h.2.2.2.2]
  rcases h.1 with q | q | q
  · rw [f1 5001 r q, f1 5030 r (by omega)]; simp
  · rw [f1 r 5003 (by omega), f1 5030 r (by omega)]; simp
  · rw [f1 r 5003 (by omega), f1 r 5039 (by omega)]; simp
theorem isM.mk {z : Int64} {σ : XS9} {r n : Nat} (h : (r < 5001 ∨ (5005 ≤ r ∧ r < 5030) ∨ 5040 ≤ r) ∧ r ≠ 7000 ∧ r ≠ 8000 ∧ r ≠ 9000 ∧ r < 20000) (h1 : 5000 ≤ r) (hn : n < 900) (hl : ∀ s, lyQ z (ctl σ) r s = some (100, n, fun k => .int (s k))) : isM z σ r n := ⟨by omega, fun i _ _ => notCtl h i, .inr (notCtl h), hn, hl⟩
theorem fl1 {x : Int32} (h : x = nI 1) : ¬ x = 0 := by rw [h]; decide
theorem isM.putR {z : Int64} {σ : XS9} {r n : Nat} {x : Nat → Int32} (a : isM z σ r n) (h : (r < 5001 ∨ (5005 ≤ r ∧ r < 5030) ∨ 5040 ≤ r) ∧ r ≠ 7000 ∧ r ≠ 8000 ∧ r ≠ 9000 ∧ r < 20000) {h0 : XH} : xx_up (setM z σ h0) r (100, n, fun k => .int (x k)) = setM z (uR σ r x) h0 :=
  putMR (F := fun s k => .int (s k)) a.1 (fun i e => by rw [notCtl h i] at e; cases e) a.2.2.2.2
theorem im_5005 {z : Int64} {σ : XS9}  : isM z σ 5005 6 := isM.mk (by omega) (by omega) (by omega) (fun s => lq_5005  s)
theorem im_5006 {z : Int64} {σ : XS9}  : isM z σ 5006 6 := isM.mk (by omega) (by omega) (by omega) (fun s => lq_5006  s)
theorem im_5007 {z : Int64} {σ : XS9}  : isM z σ 5007 5 := isM.mk (by omega) (by omega) (by omega) (fun s => lq_5007  s)
theorem im_rpr {z : Int64} {σ : XS9} {R : Nat} (hR : σ 5001 900 = nI R) (hR5 : R ≤ 5) {K : Nat} (hK : σ 5003 900 = nI K) (hK60 : K ≤ 60) {j : Nat} (hj : j < K) : isM z σ (6000 + j) R := isM.mk (by omega) (by omega) (by omega) (fun s => lq_rpr hR hR5 hK hK60 hj s)
theorem im_rwi {z : Int64} {σ : XS9} {K : Nat} (hK : σ 5003 900 = nI K) (hK60 : K ≤ 60) {j : Nat} (hj : j < K) : isM z σ (6100 + j) 6 := isM.mk (by omega) (by omega) (by omega) (fun s => lq_rwi hK hK60 hj s)
theorem im_rhe {z : Int64} {σ : XS9} {K : Nat} (hK : σ 5003 900 = nI K) (hK60 : K ≤ 60) {j : Nat} (hj : j < K) : isM z σ (6200 + j) 6 := isM.mk (by omega) (by omega) (by omega) (fun s => lq_rhe hK hK60 hj s)
theorem im_kpr {z : Int64} {σ : XS9} {b : Nat} (hb : b = 7000 ∨ b = 8000) (hf : σ b 20 = nI 1) {R : Nat} (hR : σ 5001 900 = nI R) (hR5 : R ≤ 5)  : isM z σ (b + 1) R := isM.mk (by omega) (by omega) (by omega) (fun s => lq_kpr hb (fl1 hf) hR hR5 s)
theorem im_khe {z : Int64} {σ : XS9} {b : Nat} (hb : b = 7000 ∨ b = 8000) (hf : σ b 20 = nI 1)  : isM z σ (b + 2) 6 := isM.mk (by omega) (by omega) (by omega) (fun s => lq_khe hb (fl1 hf) s)
theorem im_kel {z : Int64} {σ : XS9} {b : Nat} (hb : b = 7000 ∨ b = 8000) (hf : σ b 20 = nI 1)  : isM z σ (b + 3) 6 := isM.mk (by omega) (by omega) (by omega) (fun s => lq_kel hb (fl1 hf) s)
theorem im_kwv {z : Int64} {σ : XS9} {b : Nat} (hb : b = 7000 ∨ b = 8000) (hf : σ b 20 = nI 1)  : isM z σ (b + 4) 6 := isM.mk (by omega) (by omega) (by omega) (fun s => lq_kwv hb (fl1 hf) s)
theorem im_kco {z : Int64} {σ : XS9} {b : Nat} (hb : b = 7000 ∨ b = 8000) (hf : σ b 20 = nI 1)  : isM z σ (b + 5) 6 := isM.mk (by omega) (by omega) (by omega) (fun s => lq_kco hb (fl1 hf) s)
theorem im_opr {z : Int64} {σ : XS9} {b : Nat} (hb : b = 7000 ∨ b = 8000) (hf : σ b 20 = nI 1) {R : Nat} (hR : σ 5001 900 = nI R) (hR5 : R ≤ 5) {n : Nat} (hn : σ b 21 = nI n) (hn60 : n ≤ 60) {j : Nat} (hj : j < n) : isM z σ (b + 100 + j) R := isM.mk (by omega) (by omega) (by omega) (fun s => lq_opr hb (fl1 hf) hR hR5 hn hn60 hj s)
theorem im_ohe {z : Int64} {σ : XS9} {b : Nat} (hb : b = 7000 ∨ b = 8000) (hf : σ b 20 = nI 1) {n : Nat} (hn : σ b 22 = nI n) (hn60 : n ≤ 60) {j : Nat} (hj : j < n) : isM z σ (b + 200 + j) 6 := isM.mk (by omega) (by omega) (by omega) (fun s => lq_ohe hb (fl1 hf) hn hn60 hj s)
theorem im_wsh {z : Int64} {σ : XS9} {b : Nat} (hb : b = 7000 ∨ b = 8000) (hf : σ b 20 = nI 1) {g : Nat} (hg : σ b 23 = nI g) (hg1 : g < 200) {j : Nat} (hj : j ≤ g) : isM z σ (b + 500 + j) 6 := isM.mk (by omega) (by omega) (by omega) (fun s => lq_wsh hb (fl1 hf) hg hg1 hj s)
theorem im_9001 {z : Int64} {σ : XS9} (hc : σ 9000 20 = nI 1) : isM z σ 9001 6 := isM.mk (by omega) (by omega) (by omega) (fun s => lq_9001 (fl1 hc) s)
theorem im_9002 {z : Int64} {σ : XS9} (hc : σ 9000 20 = nI 1) : isM z σ 9002 6 := isM.mk (by omega) (by omega) (by omega) (fun s => lq_9002 (fl1 hc) s)
theorem im_9003 {z : Int64} {σ : XS9} (hc : σ 9000 20 = nI 1) : isM z σ 9003 64 := isM.mk (by omega) (by omega) (by omega) (fun s => lq_9003 (fl1 hc) s)
theorem im_9004 {z : Int64} {σ : XS9} (hc : σ 9000 20 = nI 1) : isM z σ 9004 5 := isM.mk (by omega) (by omega) (by omega) (fun s => lq_9004 (fl1 hc) s)
theorem im_9005 {z : Int64} {σ : XS9} (hc : σ 9000 20 = nI 1) : isM z σ 9005 20 := isM.mk (by omega) (by omega) (by omega) (fun s => lq_9005 (fl1 hc) s)
theorem pm_mod {z : Int64} {σ : XS9} {h : XH} {x : Int32} {i : Nat} (hi : i < 8) : xx_up (setM z σ h) 5000 (20, 17, updV (fun k => match k with | 8 => .ref 5001 | 9 => .ref 5002 | 10 => .ref 5003 | 11 => .ref 5004 | 12 => (if σ 7000 25 = 0 then .null else .ref 7000) | 13 => .ref 5005 | 14 => .ref 5006 | 15 => .ref 5007 | 16 => .long z | k => .int ((σ 5000) k)) i (.int x)) = setM z (u2 σ 5000 i x) h :=
  putM (F := fun s => fun k => match k with | 8 => .ref 5001 | 9 => .ref 5002 | 10 => .ref 5003 | 11 => .ref 5004 | 12 => (if σ 7000 25 = 0 then .null else .ref 7000) | 13 => .ref 5005 | 14 => .ref 5006 | 15 => .ref 5007 | 16 => .long z | k => .int (s k)) (by omega) (notCtl (by omega) i) lq_mod (fun s => by
    funext j
    unfold updV
    by_cases e : j = i
    · subst e
      rw [if_pos rfl]
      (repeat' split) <;> first | omega | (rw [if_pos rfl]; done) | simp_all
    · rw [if_neg e]
      (repeat' split) <;> simp_all)
theorem pm_reg {z : Int64} {σ : XS9} {h : XH} {x : Int32} {i : Nat} {R : Nat} (hR : σ 5001 900 = nI R) (hR5 : R ≤ 5) {j : Nat} (hj : j < R) : xx_up (setM z σ h) (5010 + j) (18, 4, updV (fun k => .int (σ (5010 + j) k)) i (.int x)) = setM z (u2 σ (5010 + j) i x) h :=
  putM (F := fun s k => .int (s k)) (by omega) (notCtl (by omega) i) (lq_reg hR hR5 hj) (fun s => by funext j; unfold updV; split <;> simp_all)
theorem pm_bid {z : Int64} {σ : XS9} {h : XH} {x : Int32} {i : Nat} (hi : i < 5) {B : Nat} (hB : σ 5002 900 = nI B) (hB6 : B ≤ 6) {j : Nat} (hj : j < B) : xx_up (setM z σ h) (5020 + j) (15, 6, updV (fun k => if k = 5 then .ref (5030 + j) else .int (σ (5020 + j) k)) i (.int x)) = setM z (u2 σ (5020 + j) i x) h :=
  putM (F := fun s k => if k = 5 then .ref (5030 + j) else .int (s k)) (by omega) (notCtl (by omega) i) (lq_bid hB hB6 hj) (fun s => by
    funext q
    unfold updV
    by_cases e : q = i
    · subst e
      rw [if_pos rfl, if_neg (by omega)]
      simp only [if_pos]
    · rw [if_neg e]
      by_cases e5 : q = 5
      · simp only [if_pos e5]
      · simp only [if_neg e5, if_neg e])
theorem isCb {b i : Nat} (hb : b = 7000 ∨ b = 8000) (hi : i < 20) : isCtl b i = false := by
  have f1 : Nat.ble 20 i = false := Bool.eq_false_iff.mpr (fun q => by have := Nat.le_of_ble_eq_true q; omega)
  unfold isCtl
  rcases hb with rfl | rfl <;> rw [f1] <;> rfl
theorem isC9 {i : Nat} (hi : i < 20) : isCtl 9000 i = false := by
  have f1 : Nat.ble 20 i = false := Bool.eq_false_iff.mpr (fun q => by have := Nat.le_of_ble_eq_true q; omega)
  unfold isCtl
  rw [f1]
  rfl
theorem pm_clk {z : Int64} {σ : XS9} {h : XH} {x : Int32} {b : Nat} (hb : b = 7000 ∨ b = 8000) (hf : σ b 20 = nI 1) {g : Nat} (hg : σ b 23 = nI g) (hg1 : g < 200) {w : Nat} (hw : σ b 24 = nI w) (hw1 : w < 200)  : xx_up (setM z σ h) b (17, 11, updV (fun k => match k with | 0 => .ref (b + 1) | 1 => .ref (b + 2) | 2 => .ref (b + 500 + g) | 3 => .ref (b + 700 + w) | 4 => .ref (b + 3) | 5 => .ref (b + 4) | 6 => .ref (b + 5) | 7 => .ref (b + 6) | 8 => .ref (b + 7) | 9 => .int (σ b 9) | 10 => .ref 5000 | _ => .null) 9 (.int x)) = setM z (u2 σ b 9 x) h :=
  putM (F := fun s k => match k with | 0 => .ref (b + 1) | 1 => .ref (b + 2) | 2 => .ref (b + 500 + g) | 3 => .ref (b + 700 + w) | 4 => .ref (b + 3) | 5 => .ref (b + 4) | 6 => .ref (b + 5) | 7 => .ref (b + 6) | 8 => .ref (b + 7) | 9 => .int (s 9) | 10 => .ref 5000 | _ => .null) (by omega) (isCb hb (by omega)) (lq_clk hb (fl1 hf) hg hg1 hw hw1) (fun s => by
    funext j
    unfold updV
    by_cases e : j = 9
    · subst e; rfl
    · rw [if_neg e]; split <;> simp_all)
theorem pm_cho {z : Int64} {σ : XS9} {h : XH} {x : Int32} (hc : σ 9000 20 = nI 1) : xx_up (setM z σ h) 9000 (16, 7, updV (fun k => match k with | 0 => .ref 9001 | 1 => .ref 9002 | 2 => .ref 9003 | 3 => .ref 9004 | 4 => .ref 9005 | 6 => .ref 5000 | k => .int ((σ 9000) k)) 5 (.int x)) = setM z (u2 σ 9000 5 x) h :=
  putM (F := fun s k => match k with | 0 => .ref 9001 | 1 => .ref 9002 | 2 => .ref 9003 | 3 => .ref 9004 | 4 => .ref 9005 | 6 => .ref 5000 | k => .int (s k)) (by omega) (isC9 (by omega)) (lq_9000 (fl1 hc)) (fun s => by
    funext j
    unfold updV
    by_cases e : j = 5
    · subst e; rfl
    · rw [if_neg e]; split <;> simp_all)
theorem pm_hwa {z : Int64} {σ : XS9} {h : XH} {x : Int32} {i : Nat} {b : Nat} (hb : b = 7000 ∨ b = 8000) (hf : σ b 20 = nI 1) {w : Nat} (hw : σ b 24 = nI w) (hw1 : w < 200) {j : Nat} (hj : j ≤ w) : xx_up (setM z σ h) (b + 700 + j) (101, 6, updV (fun k => .int (σ (b + 700 + j) k)) i (.int x)) = setM z (u2 σ (b + 700 + j) i x) h :=
  putM (F := fun s k => .int (s k)) (by omega) (notCtl (by omega) i) (lq_hwa hb (fl1 hf) hw hw1 hj) (fun s => by funext j; unfold updV; split <;> simp_all)
/-! ===== what lies outside of the reference ===== -/
def xx_bs (h : XH) : Prop := (∃ f0, h 0 = some (104, 0, f0)) ∧ (∃ c3, h 3 = some c3) ∧ h 1 = some (105, 256, fun j => .ref (200 + j)) ∧ (∀ j, j < 256 → h (200 + j) = some (2, 1, fun _ => .int (nI j - 128))) ∧ h 19990 = none ∧ h 19991 = none
theorem bs_up {h : XH} {r : Nat} {c : XC} (hb : xx_bs h) (h1 : 1000 ≤ r) (h2 : r ≠ 19990) (h3 : r ≠ 19991) : xx_bs (xx_up h r c) := by
  obtain ⟨⟨f0, a1⟩, ⟨c3, a2⟩, a3, a4, a5, a6⟩ := hb
  exact ⟨⟨f0, (xx_up_ne (by omega)).trans a1⟩, ⟨c3, (xx_up_ne (by omega)).trans a2⟩, (xx_up_ne (by omega)).trans a3, fun j hj => (xx_up_ne (by omega)).trans (a4 j hj), (xx_up_ne (by omega)).trans a5, (xx_up_ne (by omega)).trans a6⟩
theorem setM_no2 {z : Int64} {σ : XS9} {h : XH} (hb : xx_bs h) : setM z σ h 19990 = none ∧ setM z σ h 19991 = none := by
  have e : ∀ r s, 10300 ≤ r → r < 20000 → lyQ z (ctl σ) r s = none := fun r s h1 h2 => by
    unfold lyQ
    rw [if_neg (by omega), if_neg (by omega), if_neg (by omega), if_neg (by omega), if_neg (by omega), if_neg (by omega), if_neg (by omega), if_neg (by omega), if_neg (by omega), if_neg (by omega), if_neg (by omega), if_neg (by omega), if_neg (by omega), if_neg (by omega), if_neg (by omega), if_neg (by omega), if_neg (by omega), if_neg (by omega), if_pos (by omega)]
  exact ⟨(setM_no (e _ _ (by omega) (by omega))).trans hb.2.2.2.2.1, (setM_no (e _ _ (by omega) (by omega))).trans hb.2.2.2.2.2⟩
theorem ct_get {l : Launch} {z : Int64} {σ : XS9} {h : XH} (hl : l.stackTraces = false) (hbs : xx_bs h) {r n : Nat} {f : Nat → Value} (hc : setM z σ h r = some (206, n, f)) (h1 : 1000 ≤ r) {i x : Nat} (hi : i < n) (hn : n < 2147483648) (hx : f i = .ref x) : XEx l m_Jx4a65c_get_915e3 2 0 0 [.ref r, .int (nI i)] (setM z σ h) (some (.ref x)) (setM z σ h) := by
  obtain ⟨f0, a1⟩ := hbs.1
  exact ct_AL_get hl hc (e := 19990) (setM_no2 hbs).1 (by omega) h1 (f0 := f0) ((setM_out (by omega)).trans a1) hi hn hx
theorem small_eq {v : Int32} (h : xx_small v) : nI (cn (v + 128)) - 128 = v := by
  rw [← (small_nat h).1]
  exact Int32.add_sub_cancel v 128
theorem lm_pbox {z : Int64} {σ : XS9} {h : XH} (hbs : xx_bs h) {B : Nat} (hB : σ 5002 900 = nI B) (hB6 : B ≤ 6) {j : Nat} (hj : j < B) {p : Nat} (hp : σ (5030 + j) 900 = nI p) (hp20 : p ≤ 20) {k : Nat} (hk : k < p) : setM z σ h (xx_box (σ (5030 + j) k) (nmP j k)) = some (2, 1, fun _ => .int (σ (5030 + j) k)) := by
  unfold xx_box
  split
  · rename_i hs
    have := (small_nat hs).2
    rw [setM_out (by omega), hbs.2.2.2.1 _ this, small_eq hs]
  · rename_i hs
    exact lm_pint hB hB6 hj hp hp20 hk hs
theorem lm_sbox {z : Int64} {σ : XS9} {h : XH} (hbs : xx_bs h) {S : Nat} (hS : σ 5004 900 = nI S) (hS20 : S ≤ 20) {k : Nat} (hk : k < S) : setM z σ h (xx_box (σ 5004 k) (nmS σ k)) = some (2, 1, fun _ => .int (σ 5004 k)) := by
  unfold xx_box
  split
  · rename_i hs
    have := (small_nat hs).2
    rw [setM_out (by omega), hbs.2.2.2.1 _ this, small_eq hs]
  · rename_i hs
    exact lm_sint hS hS20 hk hs
abbrev bZ (p : Prop) [Decidable p] : Int32 := if p then 1 else 0
theorem bZ_or {p : Prop} [Decidable p] : bZ p = 0 ∨ bZ p = 1 := by unfold bZ; split <;> simp
theorem bZ_0 {p : Prop} [Decidable p] : bZ p = 0 ↔ ¬ p := by unfold bZ; split <;> simp_all
section
variable {Y : XY} {M : XM} {l : Launch} {d k n : Nat} {h : XH} {pc : Nat} {ls st : List Value}
theorem sw_if_eqB {p : Prop} [Decidable p] {off : Int} {tgt : Nat} (O : xx_O Y M l d) (hd : decode M.2.1 pc = .ok (.ifCond .eq off, 3)) (ht : (pc : Int) + off = (tgt : Int)) (kt : ¬ p → SW Y k n h tgt ls st) (kf : p → SW Y k n h (pc + 3) ls st) : SW Y k n h pc ls (.int (bZ p) :: st) :=
  sw_if_eq O hd ht (fun e => kt (bZ_0.mp e)) (fun e => kf (Decidable.of_not_not (fun q => e (bZ_0.mpr q))))
theorem sw_if_neB {p : Prop} [Decidable p] {off : Int} {tgt : Nat} (O : xx_O Y M l d) (hd : decode M.2.1 pc = .ok (.ifCond .ne off, 3)) (ht : (pc : Int) + off = (tgt : Int)) (kt : p → SW Y k n h tgt ls st) (kf : ¬ p → SW Y k n h (pc + 3) ls st) : SW Y k n h pc ls (.int (bZ p) :: st) :=
  sw_if_ne O hd ht (fun e => kt (Decidable.of_not_not (fun q => e (bZ_0.mpr q)))) (fun e => kf (bZ_0.mp e))
end
end
section
/-! ===== the reference: small methods ===== -/

def f_is (x y w : Int32) : Int32 := (if x < y then 0 else (if w < x then 0 else 1))
theorem ct_is0 {l : Launch} {h : XH} (hl : l.stackTraces = false) {x y w : Int32} : XEx l m_X14_is 0 0 0 [.int x, .int y, .int w] (h) (some (.int (f_is x y w))) (h) := by
  refine XMet.of hl rfl rfl (Nat.le_of_ble_eq_true rfl) (fun Y O hh hQ => ?_)
  show SW Y 0 0 (h) 0 [.int x, .int y, .int w] []
  refine sw_iload_n O (xx_dt dd_X14_is 0 rfl) rfl ?_
  refine sw_iload_n O (xx_dt dd_X14_is 1 rfl) rfl ?_
  refine sw_icmp_lt (tgt := 14) O (xx_dt dd_X14_is 2 rfl) (by decide) (fun q1 => ?_) (fun q1 => ?_)
  · refine sw_iconst (x := 0) O (xx_dt dd_X14_is 8 rfl) (by decide) ?_
    exact sw_iret O (xx_dt dd_X14_is 9 rfl) rfl rfl (by rw [hQ]; exact ⟨by unfold f_is; simp only [if_pos q1], rfl⟩)
  · refine sw_iload_n O (xx_dt dd_X14_is 3 rfl) rfl ?_
    refine sw_iload_n O (xx_dt dd_X14_is 4 rfl) rfl ?_
    refine sw_icmp_gt (tgt := 14) O (xx_dt dd_X14_is 5 rfl) (by decide) (fun q2 => ?_) (fun q2 => ?_)
    · refine sw_iconst (x := 0) O (xx_dt dd_X14_is 8 rfl) (by decide) ?_
      exact sw_iret O (xx_dt dd_X14_is 9 rfl) rfl rfl (by rw [hQ]; exact ⟨by unfold f_is; simp only [if_neg q1, if_pos q2], rfl⟩)
    · refine sw_iconst (x := 1) O (xx_dt dd_X14_is 6 rfl) (by decide) ?_
      refine sw_goto (tgt := 15) O (xx_dt dd_X14_is 7 rfl) (by decide) ?_
      exact sw_iret O (xx_dt dd_X14_is 9 rfl) rfl rfl (by rw [hQ]; exact ⟨by unfold f_is; simp only [if_neg q1, if_neg q2], rfl⟩)
theorem f_is_eq {x y w : Int32} : f_is x y w = bZ (n_bt x y w) := by
  unfold f_is bZ
  by_cases a : x < y
  · have : ¬ n_bt x y w := fun h => absurd a (Int32.not_lt.mpr h.1)
    rw [if_neg this]
    simp only [a, if_true]
  · by_cases b : w < x
    · have : ¬ n_bt x y w := fun h => absurd b (Int32.not_lt.mpr h.2)
      rw [if_neg this]
      simp [a, Int32.not_le.mpr b]
    · have : n_bt x y w := ⟨Int32.not_lt.mp a, Int32.not_lt.mp b⟩
      rw [if_pos this]
      simp [a, Int32.not_lt.mp b]
theorem ct_X14_is {l : Launch} {h : XH} (hl : l.stackTraces = false) {x y w : Int32} : XEx l m_X14_is 0 0 0 [.int x, .int y, .int w] h (some (.int (bZ (n_bt x y w)))) h := by
  rw [← f_is_eq]
  exact ct_is0 hl
def x_power_4 (r : Nat) (s0 : Int32) : Int32 := xit (fun i4 s4 => s4 * 6) r 0 s0
def f_power (r : Nat) : Int32 := (x_power_4 r 1)
theorem ct_X14_power {l : Launch} {h : XH} (hl : l.stackTraces = false) {r : Nat} (hr : r < 1000) : XEx l m_X14_power 0 0 0 [.int (nI r)] (h) (some (.int (f_power r))) (h) := by
  refine XMet.of hl rfl rfl (Nat.le_of_ble_eq_true rfl) (fun Y O hh hQ => ?_)
  show SW Y 0 0 (h) 0 [.int (nI r), xx_d, xx_d] []
  refine sw_iconst (x := 1) O (xx_dt dd_X14_power 0 rfl) (by decide) ?_
  refine sw_istore_n (ls2 := [.int (nI r), .int 1, xx_d]) O (xx_dt dd_X14_power 1 rfl) (by decide) rfl ?_
  refine sw_iconst (x := 0) O (xx_dt dd_X14_power 2 rfl) (by decide) ?_
  refine sw_istore_n (ls2 := [.int (nI r), .int 1, .int 0]) O (xx_dt dd_X14_power 3 rfl) (by decide) rfl ?_
  refine sw_for (fun i4 s4 => s4 * 6) (fun _ _ => True) (hp := fun _ => h) (hd := 4) (lc := fun i4 s4 => [.int (nI r), .int s4, .int (nI i4)]) (N := r) (fun i4 s4 hi4 hP4 => ⟨trivial, fun kk4 => ?_⟩) r 0 1 (by omega) (trivial) (fun hP4 => ?_)
  · refine sw_iload_n O (xx_dt dd_X14_power 4 rfl) rfl ?_
    refine sw_iload_n O (xx_dt dd_X14_power 5 rfl) rfl ?_
    refine sw_icmp_ge (tgt := 20) O (xx_dt dd_X14_power 6 rfl) (by decide) (fun q1 => ?_) (fun q1 => ?_)
    · exact absurd q1 (nI_ge (b := r) hi4 (by omega))
    · refine sw_iload_n O (xx_dt dd_X14_power 7 rfl) rfl ?_
      refine sw_bipush (x := 6) O (xx_dt dd_X14_power 8 rfl) (by decide) ?_
      refine sw_imul O (xx_dt dd_X14_power 9 rfl) ?_
      refine sw_istore_n (ls2 := [.int (nI r), .int (s4 * 6), .int (nI i4)]) O (xx_dt dd_X14_power 10 rfl) (by decide) rfl ?_
      refine sw_iinc (y := nI (i4 + 1)) (ls2 := [.int (nI r), .int (s4 * 6), .int (nI (i4 + 1))]) O (xx_dt dd_X14_power 11 rfl) rfl (nI_1 _) (by decide) rfl ?_
      refine sw_goto (tgt := 4) O (xx_dt dd_X14_power 12 rfl) (by decide) ?_
      exact kk4
  · show SW Y _ _ (h) 4 [.int (nI r), .int (x_power_4 r 1), .int (nI r)] []
    refine sw_iload_n O (xx_dt dd_X14_power 4 rfl) rfl ?_
    refine sw_iload_n O (xx_dt dd_X14_power 5 rfl) rfl ?_
    refine sw_icmp_ge (tgt := 20) O (xx_dt dd_X14_power 6 rfl) (by decide) (fun q1 => ?_) (fun q1 => ?_)
    · refine sw_iload_n O (xx_dt dd_X14_power 13 rfl) rfl ?_
      exact sw_iret O (xx_dt dd_X14_power 14 rfl) rfl rfl (by rw [hQ]; exact ⟨by unfold f_power; rfl, rfl⟩)
    · exact absurd (Int32.le_refl _) q1
theorem power_vals : ∀ r, r < 6 → f_power r = nI (6 ^ r) := by
  intro r hr
  match r, hr with
  | 0, _ => rfl
  | 1, _ => rfl
  | 2, _ => rfl
  | 3, _ => rfl
  | 4, _ => rfl
  | 5, _ => rfl
theorem power_ne {r : Nat} (hr : r < 6) : ¬ f_power r = 0 := by
  match r, hr with
  | 0, _ => decide
  | 1, _ => decide
  | 2, _ => decide
  | 3, _ => decide
  | 4, _ => decide
  | 5, _ => decide
def f_of (c : Int32) (r : Nat) : Int32 := (c / (f_power r)) - (c / (f_power r)) / 6 * 6
theorem ct_X14_of {l : Launch} {h : XH} (hl : l.stackTraces = false) {c : Int32} {r : Nat} (hr : r < 6) : XEx l m_X14_of 1 0 0 [.int c, .int (nI r)] (h) (some (.int (f_of c r))) (h) := by
  refine XMet.of hl rfl rfl (Nat.le_of_ble_eq_true rfl) (fun Y O hh hQ => ?_)
  show SW Y 0 0 (h) 0 [.int c, .int (nI r)] []
  refine sw_iload_n O (xx_dt dd_X14_of 0 rfl) rfl ?_
  refine sw_iload_n O (xx_dt dd_X14_of 1 rfl) rfl ?_
  refine sw_callSx (as := [.int (nI r)]) (st := [.int c]) (st2 := [.int (f_power r), .int c]) O (ct_X14_power hl (r := r) (by omega)) ce_X14_power ml_X14_49 st_X14_power (xx_dt dd_X14_of 2 rfl) (by decide) rfl rfl (Nat.le_of_ble_eq_true rfl) rfl ?_
  refine sw_idiv O (xx_dt dd_X14_of 3 rfl) (power_ne hr) ?_
  refine sw_bipush (x := 6) O (xx_dt dd_X14_of 4 rfl) (by decide) ?_
  refine sw_irem O (xx_dt dd_X14_of 5 rfl) (by first | decide | assumption) ?_
  exact sw_iret O (xx_dt dd_X14_of 6 rfl) rfl rfl (by rw [hQ]; exact ⟨by unfold f_of; rfl, rfl⟩)
def f_with (c : Int32) (r : Nat) (m : Int32) : Int32 := c + ((m - (f_of c r)) * (f_power r))
theorem ct_X14_with {l : Launch} {h : XH} (hl : l.stackTraces = false) {c m : Int32} {r : Nat} (hr : r < 6) : XEx l m_X14_with 2 0 0 [.int c, .int (nI r), .int m] (h) (some (.int (f_with c r m))) (h) := by
  refine XMet.of hl rfl rfl (Nat.le_of_ble_eq_true rfl) (fun Y O hh hQ => ?_)
  show SW Y 0 0 (h) 0 [.int c, .int (nI r), .int m] []
  refine sw_iload_n O (xx_dt dd_X14_with 0 rfl) rfl ?_
  refine sw_iload_n O (xx_dt dd_X14_with 1 rfl) rfl ?_
  refine sw_iload_n O (xx_dt dd_X14_with 2 rfl) rfl ?_
  refine sw_iload_n O (xx_dt dd_X14_with 3 rfl) rfl ?_
  refine sw_callSx (as := [.int c, .int (nI r)]) (st := [.int m, .int c]) (st2 := [.int (f_of c r), .int m, .int c]) O (ct_X14_of hl (c := c) (r := r) (by omega)) ce_X14_of ml_X14_53 st_X14_of (xx_dt dd_X14_with 4 rfl) (by decide) rfl rfl (Nat.le_of_ble_eq_true rfl) rfl ?_
  refine sw_isub O (xx_dt dd_X14_with 5 rfl) ?_
  refine sw_iload_n O (xx_dt dd_X14_with 6 rfl) rfl ?_
  refine sw_callSx (as := [.int (nI r)]) (st := [.int (m - (f_of c r)), .int c]) (st2 := [.int (f_power r), .int (m - (f_of c r)), .int c]) O (ct_X14_power hl (r := r) (by omega)) ce_X14_power ml_X14_49 st_X14_power (xx_dt dd_X14_with 7 rfl) (by decide) rfl rfl (Nat.le_of_ble_eq_true rfl) rfl ?_
  refine sw_imul O (xx_dt dd_X14_with 8 rfl) ?_
  refine sw_iadd O (xx_dt dd_X14_with 9 rfl) ?_
  exact sw_iret O (xx_dt dd_X14_with 10 rfl) rfl rfl (by rw [hQ]; exact ⟨by unfold f_with; rfl, rfl⟩)
def x_Mpoints_4 (σ : XS9) (c : Int32) (R : Nat) (s0 : Int32) : Int32 := xit (fun i4 s4 => s4 + ((f_of c i4) * (σ (5010 + i4) 1))) R 0 s0
def f_Mpoints (σ : XS9) (c : Int32) (R : Nat) : Int32 := (x_Mpoints_4 σ c R 0)
theorem ct_X14_points {l : Launch} {h : XH} (hl : l.stackTraces = false) {z : Int64} {σ : XS9} (hbs : xx_bs h) {R : Nat} (hR : σ 5001 900 = nI R) (hR5 : R ≤ 5) {c : Int32} : XEx l m_X14_points 3 0 0 [.ref 5000, .int c] (setM z σ h) (some (.int (f_Mpoints σ c R))) (setM z σ h) := by
  refine XMet.of hl rfl rfl (Nat.le_of_ble_eq_true rfl) (fun Y O hh hQ => ?_)
  show SW Y 0 0 (setM z σ h) 0 [.ref 5000, .int c, xx_d, xx_d] []
  refine sw_iconst (x := 0) O (xx_dt dd_X14_points 0 rfl) (by decide) ?_
  refine sw_istore_n (ls2 := [.ref 5000, .int c, .int 0, xx_d]) O (xx_dt dd_X14_points 1 rfl) (by decide) rfl ?_
  refine sw_iconst (x := 0) O (xx_dt dd_X14_points 2 rfl) (by decide) ?_
  refine sw_istore_n (ls2 := [.ref 5000, .int c, .int 0, .int 0]) O (xx_dt dd_X14_points 3 rfl) (by decide) rfl ?_
  refine sw_for (fun i4 s4 => s4 + ((f_of c i4) * (σ (5010 + i4) 1))) (fun _ _ => True) (hp := fun _ => setM z σ h) (hd := 4) (lc := fun i4 s4 => [.ref 5000, .int c, .int s4, .int (nI i4)]) (N := R) (fun i4 s4 hi4 hP4 => ⟨trivial, fun kk4 => ?_⟩) R 0 0 (by omega) (trivial) (fun hP4 => ?_)
  · refine sw_iload_n O (xx_dt dd_X14_points 4 rfl) rfl ?_
    refine sw_aload_n O (xx_dt dd_X14_points 5 rfl) rfl ?_
    refine sw_get (v := .ref 5001) O (xx_dt dd_X14_points 6 rfl) cl_X14 fl_X14_23 (lm_mod) (by decide) rfl ?_
    refine sw_callVL (ci := 6) (as := []) (st := [.int (nI i4)]) (st2 := [.int (nI R), .int (nI i4)]) O (ct_AL_size hl (lm_5001 (R := R) hR (by omega))) ce_Jx4a65c_size_8abf5 ml_X14_57 iv_Jx4a65c_size_8abf5 cl_Jx4a65c rfl (lm_5001 (R := R) hR (by omega)) (xx_dt dd_X14_points 7 rfl) (by decide) rfl rfl (Nat.le_of_ble_eq_true rfl) rfl ?_
    refine sw_icmp_ge (tgt := 44) O (xx_dt dd_X14_points 8 rfl) (by decide) (fun q1 => ?_) (fun q1 => ?_)
    · exact absurd q1 (nI_ge (b := R) hi4 (by omega))
    · refine sw_iload_n O (xx_dt dd_X14_points 9 rfl) rfl ?_
      refine sw_iload_n O (xx_dt dd_X14_points 10 rfl) rfl ?_
      refine sw_iload_n O (xx_dt dd_X14_points 11 rfl) rfl ?_
      refine sw_callSx (as := [.int c, .int (nI i4)]) (st := [.int s4]) (st2 := [.int (f_of c i4), .int s4]) O (ct_X14_of hl (c := c) (r := i4) (by omega)) ce_X14_of ml_X14_53 st_X14_of (xx_dt dd_X14_points 12 rfl) (by decide) rfl rfl (Nat.le_of_ble_eq_true rfl) rfl ?_
      refine sw_aload_n O (xx_dt dd_X14_points 13 rfl) rfl ?_
      refine sw_get (v := .ref 5001) O (xx_dt dd_X14_points 14 rfl) cl_X14 fl_X14_23 (lm_mod) (by decide) rfl ?_
      refine sw_iload_n O (xx_dt dd_X14_points 15 rfl) rfl ?_
      refine sw_callVL (ci := 6) (as := [.int (nI i4)]) (st := [.int (f_of c i4), .int s4]) (st2 := [.ref (5010 + i4), .int (f_of c i4), .int s4]) O (ct_get hl hbs (lm_5001 (R := R) hR (by omega)) (by omega) (i := i4) (by omega) (by omega) rfl) ce_Jx4a65c_get_915e3 ml_X14_61 iv_Jx4a65c_get_915e3 cl_Jx4a65c rfl (lm_5001 (R := R) hR (by omega)) (xx_dt dd_X14_points 16 rfl) (by decide) rfl rfl (Nat.le_of_ble_eq_true rfl) rfl ?_
      refine sw_castO O (xx_dt dd_X14_points 17 rfl) cl_X12 (lm_reg (R := R) hR (by omega) (j := i4) (by omega)) cw_X14_65 ?_
      refine sw_get (v := .int (σ (5010 + i4) 1)) O (xx_dt dd_X14_points 18 rfl) cl_X12 fl_X14_67 (lm_reg (R := R) hR (by omega) (j := i4) (by omega)) (by decide) rfl ?_
      refine sw_imul O (xx_dt dd_X14_points 19 rfl) ?_
      refine sw_iadd O (xx_dt dd_X14_points 20 rfl) ?_
      refine sw_istore_n (ls2 := [.ref 5000, .int c, .int (s4 + ((f_of c i4) * (σ (5010 + i4) 1))), .int (nI i4)]) O (xx_dt dd_X14_points 21 rfl) (by decide) rfl ?_
      refine sw_iinc (y := nI (i4 + 1)) (ls2 := [.ref 5000, .int c, .int (s4 + ((f_of c i4) * (σ (5010 + i4) 1))), .int (nI (i4 + 1))]) O (xx_dt dd_X14_points 22 rfl) rfl (nI_1 _) (by decide) rfl ?_
      refine sw_goto (tgt := 4) O (xx_dt dd_X14_points 23 rfl) (by decide) ?_
      exact kk4
  · show SW Y _ _ (setM z σ h) 4 [.ref 5000, .int c, .int (x_Mpoints_4 σ c R 0), .int (nI R)] []
    refine sw_iload_n O (xx_dt dd_X14_points 4 rfl) rfl ?_
    refine sw_aload_n O (xx_dt dd_X14_points 5 rfl) rfl ?_
    refine sw_get (v := .ref 5001) O (xx_dt dd_X14_points 6 rfl) cl_X14 fl_X14_23 (lm_mod) (by decide) rfl ?_
    refine sw_callVL (ci := 6) (as := []) (st := [.int (nI R)]) (st2 := [.int (nI R), .int (nI R)]) O (ct_AL_size hl (lm_5001 (R := R) hR (by omega))) ce_Jx4a65c_size_8abf5 ml_X14_57 iv_Jx4a65c_size_8abf5 cl_Jx4a65c rfl (lm_5001 (R := R) hR (by omega)) (xx_dt dd_X14_points 7 rfl) (by decide) rfl rfl (Nat.le_of_ble_eq_true rfl) rfl ?_
    refine sw_icmp_ge (tgt := 44) O (xx_dt dd_X14_points 8 rfl) (by decide) (fun q1 => ?_) (fun q1 => ?_)
    · refine sw_iload_n O (xx_dt dd_X14_points 24 rfl) rfl ?_
      exact sw_iret O (xx_dt dd_X14_points 25 rfl) rfl rfl (by rw [hQ]; exact ⟨by unfold f_Mpoints; rfl, rfl⟩)
    · exact absurd (Int32.le_refl _) q1
def f_Mrefuse (σ : XS9) (x : Int32) : Int32 := 0
def g_Mrefuse (σ : XS9) (x : Int32) : XS9 := u2 σ 5000 0 x
theorem ct_refuse0 {l : Launch} {h : XH} (hl : l.stackTraces = false) {z : Int64} {σ : XS9} (hbs : xx_bs h) {x : Int32} : XEx l m_X14_refuse 0 0 0 [.ref 5000, .int x] (setM z σ h) (some (.int (f_Mrefuse σ x))) (setM z (g_Mrefuse σ x) h) := by
  refine XMet.of hl rfl rfl (Nat.le_of_ble_eq_true rfl) (fun Y O hh hQ => ?_)
  show SW Y 0 0 (setM z σ h) 0 [.ref 5000, .int x] []
  refine sw_aload_n O (xx_dt dd_X14_refuse 0 rfl) rfl ?_
  refine sw_iload_n O (xx_dt dd_X14_refuse 1 rfl) rfl ?_
  refine sw_put (h2 := setM z (u2 σ 5000 0 x) h) O (xx_dt dd_X14_refuse 2 rfl) cl_X14 fl_X14_46 (lm_mod) (by decide) (by omega) rfl (fun _ => ⟨rfl, rfl⟩) (pm_mod (by omega)) ?_
  refine sw_iconst (x := 0) O (xx_dt dd_X14_refuse 3 rfl) (by decide) ?_
  exact sw_iret O (xx_dt dd_X14_refuse 4 rfl) rfl rfl (by rw [hQ]; exact ⟨by unfold f_Mrefuse; rfl, by unfold g_Mrefuse; rfl⟩)
theorem ct_X14_refuse {l : Launch} {h : XH} (hl : l.stackTraces = false) {z : Int64} {σ : XS9} (hbs : xx_bs h) {x : Int32} : XEx l m_X14_refuse 0 0 0 [.ref 5000, .int x] (setM z σ h) (some (.int 0)) (setM z (u2 σ 5000 0 x) h) := ct_refuse0 hl hbs
def f_Mthrown (σ : XS9)  : Int32 := σ 5000 0
theorem ct_X14_thrown {l : Launch} {h : XH} (hl : l.stackTraces = false) {z : Int64} {σ : XS9} (hbs : xx_bs h)  : XEx l m_X14_thrown 0 0 0 [.ref 5000] (setM z σ h) (some (.int (f_Mthrown σ))) (setM z σ h) := by
  refine XMet.of hl rfl rfl (Nat.le_of_ble_eq_true rfl) (fun Y O hh hQ => ?_)
  show SW Y 0 0 (setM z σ h) 0 [.ref 5000] []
  refine sw_aload_n O (xx_dt dd_X14_thrown 0 rfl) rfl ?_
  refine sw_get (v := .int (σ 5000 0)) O (xx_dt dd_X14_thrown 1 rfl) cl_X14 fl_X14_46 (lm_mod) (by decide) rfl ?_
  exact sw_iret O (xx_dt dd_X14_thrown 2 rfl) rfl rfl (by rw [hQ]; exact ⟨by unfold f_Mthrown; rfl, rfl⟩)
def f_MisRegion (σ : XS9) (x : Int32) (R : Nat) : Int32 := bZ (n_bt x 0 ((nI R) - 1))
theorem ct_isRegion0 {l : Launch} {h : XH} (hl : l.stackTraces = false) {z : Int64} {σ : XS9} (hbs : xx_bs h) {R : Nat} (hR : σ 5001 900 = nI R) (hR5 : R ≤ 5) {x : Int32} : XEx l m_X14_isRegion 1 0 0 [.ref 5000, .int x] (setM z σ h) (some (.int (f_MisRegion σ x R))) (setM z σ h) := by
  refine XMet.of hl rfl rfl (Nat.le_of_ble_eq_true rfl) (fun Y O hh hQ => ?_)
  show SW Y 0 0 (setM z σ h) 0 [.ref 5000, .int x] []
  refine sw_iload_n O (xx_dt dd_X14_isRegion 0 rfl) rfl ?_
  refine sw_iconst (x := 0) O (xx_dt dd_X14_isRegion 1 rfl) (by decide) ?_
  refine sw_aload_n O (xx_dt dd_X14_isRegion 2 rfl) rfl ?_
  refine sw_get (v := .ref 5001) O (xx_dt dd_X14_isRegion 3 rfl) cl_X14 fl_X14_23 (lm_mod) (by decide) rfl ?_
  refine sw_callVL (ci := 6) (as := []) (st := [.int 0, .int x]) (st2 := [.int (nI R), .int 0, .int x]) O (ct_AL_size hl (lm_5001 (R := R) hR (by omega))) ce_Jx4a65c_size_8abf5 ml_X14_57 iv_Jx4a65c_size_8abf5 cl_Jx4a65c rfl (lm_5001 (R := R) hR (by omega)) (xx_dt dd_X14_isRegion 4 rfl) (by decide) rfl rfl (Nat.le_of_ble_eq_true rfl) rfl ?_
  refine sw_iconst (x := 1) O (xx_dt dd_X14_isRegion 5 rfl) (by decide) ?_
  refine sw_isub O (xx_dt dd_X14_isRegion 6 rfl) ?_
  refine sw_callSx (as := [.int x, .int 0, .int ((nI R) - 1)]) (st := []) (st2 := [.int (bZ (n_bt x 0 ((nI R) - 1)))]) O (ct_X14_is hl) ce_X14_is ml_X14_70 st_X14_is (xx_dt dd_X14_isRegion 7 rfl) (by decide) rfl rfl (Nat.le_of_ble_eq_true rfl) rfl ?_
  exact sw_iret O (xx_dt dd_X14_isRegion 8 rfl) rfl (xx_bool bZ_or) (by rw [hQ]; exact ⟨by unfold f_MisRegion; rfl, rfl⟩)
def f_MisBidder (σ : XS9) (x : Int32) (B : Nat) : Int32 := bZ (n_bt x 0 ((nI B) - 1))
theorem ct_isBidder0 {l : Launch} {h : XH} (hl : l.stackTraces = false) {z : Int64} {σ : XS9} (hbs : xx_bs h) {B : Nat} (hB : σ 5002 900 = nI B) (hB6 : B ≤ 6) {x : Int32} : XEx l m_X14_isBidder 1 0 0 [.ref 5000, .int x] (setM z σ h) (some (.int (f_MisBidder σ x B))) (setM z σ h) := by
  refine XMet.of hl rfl rfl (Nat.le_of_ble_eq_true rfl) (fun Y O hh hQ => ?_)
  show SW Y 0 0 (setM z σ h) 0 [.ref 5000, .int x] []
  refine sw_iload_n O (xx_dt dd_X14_isBidder 0 rfl) rfl ?_
  refine sw_iconst (x := 0) O (xx_dt dd_X14_isBidder 1 rfl) (by decide) ?_
  refine sw_aload_n O (xx_dt dd_X14_isBidder 2 rfl) rfl ?_
  refine sw_get (v := .ref 5002) O (xx_dt dd_X14_isBidder 3 rfl) cl_X14 fl_X14_27 (lm_mod) (by decide) rfl ?_
  refine sw_callVL (ci := 6) (as := []) (st := [.int 0, .int x]) (st2 := [.int (nI B), .int 0, .int x]) O (ct_AL_size hl (lm_5002 (B := B) hB (by omega))) ce_Jx4a65c_size_8abf5 ml_X14_57 iv_Jx4a65c_size_8abf5 cl_Jx4a65c rfl (lm_5002 (B := B) hB (by omega)) (xx_dt dd_X14_isBidder 4 rfl) (by decide) rfl rfl (Nat.le_of_ble_eq_true rfl) rfl ?_
  refine sw_iconst (x := 1) O (xx_dt dd_X14_isBidder 5 rfl) (by decide) ?_
  refine sw_isub O (xx_dt dd_X14_isBidder 6 rfl) ?_
  refine sw_callSx (as := [.int x, .int 0, .int ((nI B) - 1)]) (st := []) (st2 := [.int (bZ (n_bt x 0 ((nI B) - 1)))]) O (ct_X14_is hl) ce_X14_is ml_X14_70 st_X14_is (xx_dt dd_X14_isBidder 7 rfl) (by decide) rfl rfl (Nat.le_of_ble_eq_true rfl) rfl ?_
  exact sw_iret O (xx_dt dd_X14_isBidder 8 rfl) rfl (xx_bool bZ_or) (by rw [hQ]; exact ⟨by unfold f_MisBidder; rfl, rfl⟩)
def f_MisRound (σ : XS9) (x : Int32) (K : Nat) : Int32 := bZ (n_bt x 1 (nI K))
theorem ct_isRound0 {l : Launch} {h : XH} (hl : l.stackTraces = false) {z : Int64} {σ : XS9} (hbs : xx_bs h) {K : Nat} (hK : σ 5003 900 = nI K) (hK60 : K ≤ 60) {x : Int32} : XEx l m_X14_isRound 1 0 0 [.ref 5000, .int x] (setM z σ h) (some (.int (f_MisRound σ x K))) (setM z σ h) := by
  refine XMet.of hl rfl rfl (Nat.le_of_ble_eq_true rfl) (fun Y O hh hQ => ?_)
  show SW Y 0 0 (setM z σ h) 0 [.ref 5000, .int x] []
  refine sw_iload_n O (xx_dt dd_X14_isRound 0 rfl) rfl ?_
  refine sw_iconst (x := 1) O (xx_dt dd_X14_isRound 1 rfl) (by decide) ?_
  refine sw_aload_n O (xx_dt dd_X14_isRound 2 rfl) rfl ?_
  refine sw_get (v := .ref 5003) O (xx_dt dd_X14_isRound 3 rfl) cl_X14 fl_X14_30 (lm_mod) (by decide) rfl ?_
  refine sw_callVL (ci := 6) (as := []) (st := [.int 1, .int x]) (st2 := [.int (nI K), .int 1, .int x]) O (ct_AL_size hl (lm_5003 (K := K) hK (by omega))) ce_Jx4a65c_size_8abf5 ml_X14_57 iv_Jx4a65c_size_8abf5 cl_Jx4a65c rfl (lm_5003 (K := K) hK (by omega)) (xx_dt dd_X14_isRound 4 rfl) (by decide) rfl rfl (Nat.le_of_ble_eq_true rfl) rfl ?_
  refine sw_callSx (as := [.int x, .int 1, .int (nI K)]) (st := []) (st2 := [.int (bZ (n_bt x 1 (nI K)))]) O (ct_X14_is hl) ce_X14_is ml_X14_70 st_X14_is (xx_dt dd_X14_isRound 5 rfl) (by decide) rfl rfl (Nat.le_of_ble_eq_true rfl) rfl ?_
  exact sw_iret O (xx_dt dd_X14_isRound 6 rfl) rfl (xx_bool bZ_or) (by rw [hQ]; exact ⟨by unfold f_MisRound; rfl, rfl⟩)
theorem sub1_lt {x : Int32} {R : Nat} (hR : R < 1000) : n_bt x 0 (nI R - 1) ↔ n_lt x R := by
  have e1 : (nI R - 1).toInt = (R : Int) - 1 := by
    have h1 := toI_nI (k := R) (by omega)
    rw [Int32.toInt_sub, h1]
    have : (1 : Int32).toInt = 1 := rfl
    rw [this]
    rw [Int.bmod_def]
    omega
  unfold n_bt
  rw [i_le, i_le, e1, n_lt_iff (by omega), i_lt, i_lt, toI_nI (by omega)]
  have : (0 : Int32).toInt = 0 := rfl
  rw [this]
  omega
theorem rd_bt {x : Int32} {K : Nat} (hK : K < 1000) : n_bt x 1 (nI K) ↔ n_rd x K := by
  rw [n_rd_iff (by omega)]
  unfold n_bt
  exact and_congr Int32.not_lt.symm Iff.rfl
theorem bZ_congr {p q : Prop} [Decidable p] [Decidable q] (h : p ↔ q) : bZ p = bZ q := by
  unfold bZ
  by_cases a : p
  · rw [if_pos a, if_pos (h.mp a)]
  · rw [if_neg a, if_neg (fun e => a (h.mpr e))]
theorem ct_X14_isRegion {l : Launch} {h : XH} (hl : l.stackTraces = false) {z : Int64} {σ : XS9} (hbs : xx_bs h) {R : Nat} (hR : σ 5001 900 = nI R) (hR5 : R ≤ 5) {x : Int32} : XEx l m_X14_isRegion 1 0 0 [.ref 5000, .int x] (setM z σ h) (some (.int (bZ (n_lt x R)))) (setM z σ h) := by
  rw [← bZ_congr (sub1_lt (R := R) (by omega))]
  exact ct_isRegion0 hl hbs hR hR5
theorem ct_X14_isBidder {l : Launch} {h : XH} (hl : l.stackTraces = false) {z : Int64} {σ : XS9} (hbs : xx_bs h) {B : Nat} (hB : σ 5002 900 = nI B) (hB6 : B ≤ 6) {x : Int32} : XEx l m_X14_isBidder 1 0 0 [.ref 5000, .int x] (setM z σ h) (some (.int (bZ (n_lt x B)))) (setM z σ h) := by
  rw [← bZ_congr (sub1_lt (R := B) (by omega))]
  exact ct_isBidder0 hl hbs hB hB6
theorem ct_X14_isRound {l : Launch} {h : XH} (hl : l.stackTraces = false) {z : Int64} {σ : XS9} (hbs : xx_bs h) {K : Nat} (hK : σ 5003 900 = nI K) (hK60 : K ≤ 60) {x : Int32} : XEx l m_X14_isRound 1 0 0 [.ref 5000, .int x] (setM z σ h) (some (.int (bZ (n_rd x K)))) (setM z σ h) := by
  rw [← bZ_congr (rd_bt (K := K) (by omega))]
  exact ct_isRound0 hl hbs hK hK60
def f_Mrules (σ : XS9) (x y : Int32) : Int32 := (if n_bt x 1 5 then (if (σ 5000 1) = 0 then σ 5000 2 else 0) else 0)
def g_Mrules (σ : XS9) (x y : Int32) : XS9 := (if n_bt x 1 5 then (if (σ 5000 1) = 0 then u2 (u2 (u2 σ 5000 0 0) 5000 2 x) 5000 3 y else u2 (u2 σ 5000 0 0) 5000 0 2) else u2 (u2 σ 5000 0 0) 5000 0 1)
theorem ct_X14_rules {l : Launch} {h : XH} (hl : l.stackTraces = false) {z : Int64} {σ : XS9} (hbs : xx_bs h) {x y : Int32} (hy : y = 0 ∨ y = 1) : XEx l m_X14_rules 1 0 0 [.ref 5000, .int x, .int y] (setM z σ h) (some (.int (f_Mrules σ x y))) (setM z (g_Mrules σ x y) h) := by
  refine XMet.of hl rfl rfl (Nat.le_of_ble_eq_true rfl) (fun Y O hh hQ => ?_)
  show SW Y 0 0 (setM z σ h) 0 [.ref 5000, .int x, .int y, xx_d] []
  refine sw_aload_n O (xx_dt dd_X14_rules 0 rfl) rfl ?_
  refine sw_iconst (x := 0) O (xx_dt dd_X14_rules 1 rfl) (by decide) ?_
  refine sw_put (h2 := setM z (u2 σ 5000 0 0) h) O (xx_dt dd_X14_rules 2 rfl) cl_X14 fl_X14_46 (lm_mod) (by decide) (by omega) rfl (fun _ => ⟨rfl, rfl⟩) (pm_mod (by omega)) ?_
  refine sw_iload_n O (xx_dt dd_X14_rules 3 rfl) rfl ?_
  refine sw_iconst (x := 1) O (xx_dt dd_X14_rules 4 rfl) (by decide) ?_
  refine sw_iconst (x := 5) O (xx_dt dd_X14_rules 5 rfl) (by decide) ?_
  refine sw_callSx (as := [.int x, .int 1, .int 5]) (st := []) (st2 := [.int (bZ (n_bt x 1 5))]) O (ct_X14_is hl) ce_X14_is ml_X14_70 st_X14_is (xx_dt dd_X14_rules 6 rfl) (by decide) rfl rfl (Nat.le_of_ble_eq_true rfl) rfl ?_
  refine sw_if_neB (tgt := 20) O (xx_dt dd_X14_rules 7 rfl) (by decide) (fun q1 => ?_) (fun q1 => ?_)
  · refine sw_aload_n O (xx_dt dd_X14_rules 12 rfl) rfl ?_
    refine sw_get (v := .int (σ 5000 1)) O (xx_dt dd_X14_rules 13 rfl) cl_X14 fl_X14_77 (lm_mod) (by decide) rfl ?_
    refine sw_if_eq (tgt := 33) O (xx_dt dd_X14_rules 14 rfl) (by decide) (fun q2 => ?_) (fun q2 => ?_)
    · refine sw_aload_n O (xx_dt dd_X14_rules 19 rfl) rfl ?_
      refine sw_get (v := .int (σ 5000 2)) O (xx_dt dd_X14_rules 20 rfl) cl_X14 fl_X14_7 (lm_mod) (by decide) rfl ?_
      refine sw_istore_n (ls2 := [.ref 5000, .int x, .int y, .int (σ 5000 2)]) O (xx_dt dd_X14_rules 21 rfl) (by decide) rfl ?_
      refine sw_aload_n O (xx_dt dd_X14_rules 22 rfl) rfl ?_
      refine sw_iload_n O (xx_dt dd_X14_rules 23 rfl) rfl ?_
      refine sw_put (h2 := setM z (u2 (u2 σ 5000 0 0) 5000 2 x) h) O (xx_dt dd_X14_rules 24 rfl) cl_X14 fl_X14_7 (lm_mod) (by decide) (by omega) rfl (fun _ => ⟨rfl, rfl⟩) (pm_mod (by omega)) ?_
      refine sw_aload_n O (xx_dt dd_X14_rules 25 rfl) rfl ?_
      refine sw_iload_n O (xx_dt dd_X14_rules 26 rfl) rfl ?_
      refine sw_put (h2 := setM z (u2 (u2 (u2 σ 5000 0 0) 5000 2 x) 5000 3 y) h) O (xx_dt dd_X14_rules 27 rfl) cl_X14 fl_X14_13 (lm_mod) (by decide) (by omega) rfl (fun _ => ⟨by rcases hy with rfl | rfl <;> rfl, by rcases hy with rfl | rfl <;> rfl⟩) (pm_mod (by omega)) ?_
      refine sw_iload_n O (xx_dt dd_X14_rules 28 rfl) rfl ?_
      exact sw_iret O (xx_dt dd_X14_rules 29 rfl) rfl rfl (by rw [hQ]; exact ⟨by unfold f_Mrules; simp only [if_pos q1, if_pos q2], by unfold g_Mrules; simp only [if_pos q1, if_pos q2]⟩)
    · refine sw_aload_n O (xx_dt dd_X14_rules 15 rfl) rfl ?_
      refine sw_iconst (x := 2) O (xx_dt dd_X14_rules 16 rfl) (by decide) ?_
      refine sw_callVx (as := [.int 2]) (st := []) (st2 := [.int 0]) O (ct_X14_refuse hl (z := z) (σ := u2 σ 5000 0 0) hbs (x := 2)) ce_X14_refuse ml_X14_74 iv_X14_refuse cl_X14 rfl (lm_mod) (xx_dt dd_X14_rules 17 rfl) (by decide) rfl rfl (Nat.le_of_ble_eq_true rfl) rfl ?_
      exact sw_iret O (xx_dt dd_X14_rules 18 rfl) rfl rfl (by rw [hQ]; exact ⟨by unfold f_Mrules; simp only [if_pos q1, if_neg q2], by unfold g_Mrules; simp only [if_pos q1, if_neg q2]⟩)
  · refine sw_aload_n O (xx_dt dd_X14_rules 8 rfl) rfl ?_
    refine sw_iconst (x := 1) O (xx_dt dd_X14_rules 9 rfl) (by decide) ?_
    refine sw_callVx (as := [.int 1]) (st := []) (st2 := [.int 0]) O (ct_X14_refuse hl (z := z) (σ := u2 σ 5000 0 0) hbs (x := 1)) ce_X14_refuse ml_X14_74 iv_X14_refuse cl_X14 rfl (lm_mod) (xx_dt dd_X14_rules 10 rfl) (by decide) rfl rfl (Nat.le_of_ble_eq_true rfl) rfl ?_
    exact sw_iret O (xx_dt dd_X14_rules 11 rfl) rfl rfl (by rw [hQ]; exact ⟨by unfold f_Mrules; simp only [if_neg q1], by unfold g_Mrules; simp only [if_neg q1]⟩)
def f_Mstep (σ : XS9) (x : Int32) : Int32 := (if n_bt x 1 20 then (if (σ 5000 1) ≤ 1 then σ 5000 4 else 0) else 0)
def g_Mstep (σ : XS9) (x : Int32) : XS9 := (if n_bt x 1 20 then (if (σ 5000 1) ≤ 1 then u2 (u2 σ 5000 0 0) 5000 4 x else u2 (u2 σ 5000 0 0) 5000 0 2) else u2 (u2 σ 5000 0 0) 5000 0 1)
theorem ct_X14_step {l : Launch} {h : XH} (hl : l.stackTraces = false) {z : Int64} {σ : XS9} (hbs : xx_bs h) {x : Int32} : XEx l m_X14_step 1 0 0 [.ref 5000, .int x] (setM z σ h) (some (.int (f_Mstep σ x))) (setM z (g_Mstep σ x) h) := by
  refine XMet.of hl rfl rfl (Nat.le_of_ble_eq_true rfl) (fun Y O hh hQ => ?_)
  show SW Y 0 0 (setM z σ h) 0 [.ref 5000, .int x, xx_d] []
  refine sw_aload_n O (xx_dt dd_X14_step 0 rfl) rfl ?_
  refine sw_iconst (x := 0) O (xx_dt dd_X14_step 1 rfl) (by decide) ?_
  refine sw_put (h2 := setM z (u2 σ 5000 0 0) h) O (xx_dt dd_X14_step 2 rfl) cl_X14 fl_X14_46 (lm_mod) (by decide) (by omega) rfl (fun _ => ⟨rfl, rfl⟩) (pm_mod (by omega)) ?_
  refine sw_iload_n O (xx_dt dd_X14_step 3 rfl) rfl ?_
  refine sw_iconst (x := 1) O (xx_dt dd_X14_step 4 rfl) (by decide) ?_
  refine sw_bipush (x := 20) O (xx_dt dd_X14_step 5 rfl) (by decide) ?_
  refine sw_callSx (as := [.int x, .int 1, .int 20]) (st := []) (st2 := [.int (bZ (n_bt x 1 20))]) O (ct_X14_is hl) ce_X14_is ml_X14_70 st_X14_is (xx_dt dd_X14_step 6 rfl) (by decide) rfl rfl (Nat.le_of_ble_eq_true rfl) rfl ?_
  refine sw_if_neB (tgt := 21) O (xx_dt dd_X14_step 7 rfl) (by decide) (fun q1 => ?_) (fun q1 => ?_)
  · refine sw_aload_n O (xx_dt dd_X14_step 12 rfl) rfl ?_
    refine sw_get (v := .int (σ 5000 1)) O (xx_dt dd_X14_step 13 rfl) cl_X14 fl_X14_77 (lm_mod) (by decide) rfl ?_
    refine sw_iconst (x := 1) O (xx_dt dd_X14_step 14 rfl) (by decide) ?_
    refine sw_icmp_le (tgt := 35) O (xx_dt dd_X14_step 15 rfl) (by decide) (fun q2 => ?_) (fun q2 => ?_)
    · refine sw_aload_n O (xx_dt dd_X14_step 20 rfl) rfl ?_
      refine sw_get (v := .int (σ 5000 4)) O (xx_dt dd_X14_step 21 rfl) cl_X14 fl_X14_17 (lm_mod) (by decide) rfl ?_
      refine sw_istore_n (ls2 := [.ref 5000, .int x, .int (σ 5000 4)]) O (xx_dt dd_X14_step 22 rfl) (by decide) rfl ?_
      refine sw_aload_n O (xx_dt dd_X14_step 23 rfl) rfl ?_
      refine sw_iload_n O (xx_dt dd_X14_step 24 rfl) rfl ?_
      refine sw_put (h2 := setM z (u2 (u2 σ 5000 0 0) 5000 4 x) h) O (xx_dt dd_X14_step 25 rfl) cl_X14 fl_X14_17 (lm_mod) (by decide) (by omega) rfl (fun _ => ⟨rfl, rfl⟩) (pm_mod (by omega)) ?_
      refine sw_iload_n O (xx_dt dd_X14_step 26 rfl) rfl ?_
      exact sw_iret O (xx_dt dd_X14_step 27 rfl) rfl rfl (by rw [hQ]; exact ⟨by unfold f_Mstep; simp only [if_pos q1, if_pos q2], by unfold g_Mstep; simp only [if_pos q1, if_pos q2]⟩)
    · refine sw_aload_n O (xx_dt dd_X14_step 16 rfl) rfl ?_
      refine sw_iconst (x := 2) O (xx_dt dd_X14_step 17 rfl) (by decide) ?_
      refine sw_callVx (as := [.int 2]) (st := []) (st2 := [.int 0]) O (ct_X14_refuse hl (z := z) (σ := u2 σ 5000 0 0) hbs (x := 2)) ce_X14_refuse ml_X14_74 iv_X14_refuse cl_X14 rfl (lm_mod) (xx_dt dd_X14_step 18 rfl) (by decide) rfl rfl (Nat.le_of_ble_eq_true rfl) rfl ?_
      exact sw_iret O (xx_dt dd_X14_step 19 rfl) rfl rfl (by rw [hQ]; exact ⟨by unfold f_Mstep; simp only [if_pos q1, if_neg q2], by unfold g_Mstep; simp only [if_pos q1, if_neg q2]⟩)
  · refine sw_aload_n O (xx_dt dd_X14_step 8 rfl) rfl ?_
    refine sw_iconst (x := 1) O (xx_dt dd_X14_step 9 rfl) (by decide) ?_
    refine sw_callVx (as := [.int 1]) (st := []) (st2 := [.int 0]) O (ct_X14_refuse hl (z := z) (σ := u2 σ 5000 0 0) hbs (x := 1)) ce_X14_refuse ml_X14_74 iv_X14_refuse cl_X14 rfl (lm_mod) (xx_dt dd_X14_step 10 rfl) (by decide) rfl rfl (Nat.le_of_ble_eq_true rfl) rfl ?_
    exact sw_iret O (xx_dt dd_X14_step 11 rfl) rfl rfl (by rw [hQ]; exact ⟨by unfold f_Mstep; simp only [if_neg q1], by unfold g_Mstep; simp only [if_neg q1]⟩)
def f_Mknock (σ : XS9)  : Int32 := (σ 5000 6) + 1
def g_Mknock (σ : XS9)  : XS9 := u2 (u2 σ 5000 0 0) 5000 6 ((σ 5000 6) + 1)
theorem ct_X14_knock {l : Launch} {h : XH} (hl : l.stackTraces = false) {z : Int64} {σ : XS9} (hbs : xx_bs h)  : XEx l m_X14_knock 0 0 0 [.ref 5000] (setM z σ h) (some (.int (f_Mknock σ))) (setM z (g_Mknock σ) h) := by
  refine XMet.of hl rfl rfl (Nat.le_of_ble_eq_true rfl) (fun Y O hh hQ => ?_)
  show SW Y 0 0 (setM z σ h) 0 [.ref 5000] []
  refine sw_aload_n O (xx_dt dd_X14_knock 0 rfl) rfl ?_
  refine sw_iconst (x := 0) O (xx_dt dd_X14_knock 1 rfl) (by decide) ?_
  refine sw_put (h2 := setM z (u2 σ 5000 0 0) h) O (xx_dt dd_X14_knock 2 rfl) cl_X14 fl_X14_46 (lm_mod) (by decide) (by omega) rfl (fun _ => ⟨rfl, rfl⟩) (pm_mod (by omega)) ?_
  refine sw_aload_n O (xx_dt dd_X14_knock 3 rfl) rfl ?_
  refine sw_dup O (xx_dt dd_X14_knock 4 rfl) rfl ?_
  refine sw_get (v := .int (σ 5000 6)) O (xx_dt dd_X14_knock 5 rfl) cl_X14 fl_X14_371 (lm_mod) (by decide) rfl ?_
  refine sw_iconst (x := 1) O (xx_dt dd_X14_knock 6 rfl) (by decide) ?_
  refine sw_iadd O (xx_dt dd_X14_knock 7 rfl) ?_
  refine sw_put (h2 := setM z (u2 (u2 σ 5000 0 0) 5000 6 ((σ 5000 6) + 1)) h) O (xx_dt dd_X14_knock 8 rfl) cl_X14 fl_X14_371 (lm_mod) (by decide) (by omega) rfl (fun _ => ⟨rfl, rfl⟩) (pm_mod (by omega)) ?_
  refine sw_aload_n O (xx_dt dd_X14_knock 9 rfl) rfl ?_
  refine sw_get (v := .int ((σ 5000 6) + 1)) O (xx_dt dd_X14_knock 10 rfl) cl_X14 fl_X14_371 (lm_mod) (by decide) rfl ?_
  exact sw_iret O (xx_dt dd_X14_knock 11 rfl) rfl rfl (by rw [hQ]; exact ⟨by unfold f_Mknock; rfl, by unfold g_Mknock; rfl⟩)
end
section
/-! ===== the reference: what is only read ===== -/
theorem toI_small {a : Nat} (ha : a < 2147483648) : (nI a).toInt = (a : Int) := toI_nI ha
theorem i_ext {x y : Int32} (h : x.toInt = y.toInt) : x = y := Int32.toInt_inj.mp h
theorem nI_dbl {a : Nat} : 2 * (nI a) = nI (2 * a) := by
  unfold nI
  rw [show (2 : Int32) = Int32.ofNat 2 from rfl, ← Int32.ofNat_mul]
theorem nI_half {a : Nat} (ha : a < 1000) : (nI (2 * a)) / 2 = nI a := by
  apply i_ext
  rw [Int32.toInt_div, toI_nI (by omega), toI_nI (by omega)]
  have : (2 : Int32).toInt = 2 := rfl
  have h2 : ((2 * a : Nat) : Int).tdiv 2 = a := by
    rw [show ((2 * a : Nat) : Int) = 2 * (a : Int) by omega]
    exact Int.mul_tdiv_cancel_left _ (by decide)
  rw [this, h2, Int.bmod_def]
  omega
def f_Bmany (σ : XS9) (j p : Nat) : Int32 := nI p
theorem ct_X9_many {l : Launch} {h : XH} (hl : l.stackTraces = false) {z : Int64} {σ : XS9} (hbs : xx_bs h) {B : Nat} (hB : σ 5002 900 = nI B) (hB6 : B ≤ 6) {j : Nat} (hj : j < B) {p : Nat} (hp : σ (5030 + j) 900 = nI (2 * p)) (hp6 : p ≤ 6)  : XEx l m_X9_many 1 0 0 [.ref (5020 + j)] (setM z σ h) (some (.int (f_Bmany σ j p))) (setM z σ h) := by
  refine XMet.of hl rfl rfl (Nat.le_of_ble_eq_true rfl) (fun Y O hh hQ => ?_)
  show SW Y 0 0 (setM z σ h) 0 [.ref (5020 + j)] []
  refine sw_aload_n O (xx_dt dd_X9_many 0 rfl) rfl ?_
  refine sw_get (v := .ref (5030 + j)) O (xx_dt dd_X9_many 1 rfl) cl_X9 fl_X9_10 (lm_bid (σ := σ) (B := B) hB (by omega) (j := j) (by omega)) (by decide) rfl ?_
  refine sw_callVL (ci := 6) (as := []) (st := []) (st2 := [.int (nI (2 * p))]) O (ct_AL_size hl (lm_pks (σ := σ) (B := B) hB (by omega) (j := j) (by omega) (p := 2 * p) hp (by omega))) ce_Jx4a65c_size_8abf5 ml_X9_16 iv_Jx4a65c_size_8abf5 cl_Jx4a65c rfl (lm_pks (σ := σ) (B := B) hB (by omega) (j := j) (by omega) (p := 2 * p) hp (by omega)) (xx_dt dd_X9_many 2 rfl) (by decide) rfl rfl (Nat.le_of_ble_eq_true rfl) rfl ?_
  refine sw_iconst (x := 2) O (xx_dt dd_X9_many 3 rfl) (by decide) ?_
  refine sw_idiv O (xx_dt dd_X9_many 4 rfl) (by first | decide | assumption) ?_
  have hx8 := trivial
  rw [nI_half (by omega)]
  exact sw_iret O (xx_dt dd_X9_many 5 rfl) rfl rfl (by rw [hQ]; exact ⟨by unfold f_Bmany; rfl, rfl⟩)
def f_Bcode (σ : XS9) (j k : Nat) : Int32 := σ (5030 + j) (2 * k)
theorem ct_X9_code {l : Launch} {h : XH} (hl : l.stackTraces = false) {z : Int64} {σ : XS9} (hbs : xx_bs h) {B : Nat} (hB : σ 5002 900 = nI B) (hB6 : B ≤ 6) {j : Nat} (hj : j < B) {p : Nat} (hp : σ (5030 + j) 900 = nI (2 * p)) (hp6 : p ≤ 6) {k : Nat} (hk : k < p)  : XEx l m_X9_code 3 0 0 [.ref (5020 + j), .int (nI k)] (setM z σ h) (some (.int (f_Bcode σ j k))) (setM z σ h) := by
  refine XMet.of hl rfl rfl (Nat.le_of_ble_eq_true rfl) (fun Y O hh hQ => ?_)
  show SW Y 0 0 (setM z σ h) 0 [.ref (5020 + j), .int (nI k)] []
  refine sw_aload_n O (xx_dt dd_X9_code 0 rfl) rfl ?_
  refine sw_get (v := .ref (5030 + j)) O (xx_dt dd_X9_code 1 rfl) cl_X9 fl_X9_10 (lm_bid (σ := σ) (B := B) hB (by omega) (j := j) (by omega)) (by decide) rfl ?_
  refine sw_iconst (x := 2) O (xx_dt dd_X9_code 2 rfl) (by decide) ?_
  refine sw_iload_n O (xx_dt dd_X9_code 3 rfl) rfl ?_
  refine sw_imul O (xx_dt dd_X9_code 4 rfl) ?_
  have hx6 := trivial
  rw [nI_dbl]
  refine sw_callVL (ci := 6) (as := [.int (nI (2 * k))]) (st := []) (st2 := [.ref (xx_box (σ (5030 + j) (2 * k)) (nmP j (2 * k)))]) O (ct_get hl hbs (lm_pks (σ := σ) (B := B) hB (by omega) (j := j) (by omega) (p := 2 * p) hp (by omega)) (by omega) (i := 2 * k) (x := xx_box (σ (5030 + j) (2 * k)) (nmP j (2 * k))) (by omega) (by omega) rfl) ce_Jx4a65c_get_915e3 ml_X9_20 iv_Jx4a65c_get_915e3 cl_Jx4a65c rfl (lm_pks (σ := σ) (B := B) hB (by omega) (j := j) (by omega) (p := 2 * p) hp (by omega)) (xx_dt dd_X9_code 5 rfl) (by decide) rfl rfl (Nat.le_of_ble_eq_true rfl) rfl ?_
  refine sw_castO O (xx_dt dd_X9_code 6 rfl) cl_J6 (lm_pbox (σ := σ) hbs (B := B) hB (by omega) (j := j) (by omega) (p := 2 * p) hp (by omega) (k := 2 * k) (by omega)) cw_X9_24 ?_
  refine sw_callVx (as := []) (st := []) (st2 := [.int (σ (5030 + j) (2 * k))]) O (ct_intValue hl (lm_pbox (σ := σ) hbs (B := B) hB (by omega) (j := j) (by omega) (p := 2 * p) hp (by omega) (k := 2 * k) (by omega)) rfl) ce_J6_intValue_8abf5 ml_X9_26 iv_J6_intValue_8abf5 cl_J6 rfl (lm_pbox (σ := σ) hbs (B := B) hB (by omega) (j := j) (by omega) (p := 2 * p) hp (by omega) (k := 2 * k) (by omega)) (xx_dt dd_X9_code 7 rfl) (by decide) rfl rfl (Nat.le_of_ble_eq_true rfl) rfl ?_
  exact sw_iret O (xx_dt dd_X9_code 8 rfl) rfl rfl (by rw [hQ]; exact ⟨by unfold f_Bcode; rfl, rfl⟩)
def f_Bamount (σ : XS9) (j k : Nat) : Int32 := σ (5030 + j) (2 * k + 1)
theorem ct_X9_amount {l : Launch} {h : XH} (hl : l.stackTraces = false) {z : Int64} {σ : XS9} (hbs : xx_bs h) {B : Nat} (hB : σ 5002 900 = nI B) (hB6 : B ≤ 6) {j : Nat} (hj : j < B) {p : Nat} (hp : σ (5030 + j) 900 = nI (2 * p)) (hp6 : p ≤ 6) {k : Nat} (hk : k < p)  : XEx l m_X9_amount 3 0 0 [.ref (5020 + j), .int (nI k)] (setM z σ h) (some (.int (f_Bamount σ j k))) (setM z σ h) := by
  refine XMet.of hl rfl rfl (Nat.le_of_ble_eq_true rfl) (fun Y O hh hQ => ?_)
  show SW Y 0 0 (setM z σ h) 0 [.ref (5020 + j), .int (nI k)] []
  refine sw_aload_n O (xx_dt dd_X9_amount 0 rfl) rfl ?_
  refine sw_get (v := .ref (5030 + j)) O (xx_dt dd_X9_amount 1 rfl) cl_X9 fl_X9_10 (lm_bid (σ := σ) (B := B) hB (by omega) (j := j) (by omega)) (by decide) rfl ?_
  refine sw_iconst (x := 2) O (xx_dt dd_X9_amount 2 rfl) (by decide) ?_
  refine sw_iload_n O (xx_dt dd_X9_amount 3 rfl) rfl ?_
  refine sw_imul O (xx_dt dd_X9_amount 4 rfl) ?_
  have hx6 := trivial
  rw [nI_dbl]
  refine sw_iconst (x := 1) O (xx_dt dd_X9_amount 5 rfl) (by decide) ?_
  refine sw_iadd O (xx_dt dd_X9_amount 6 rfl) ?_
  rw [nI_a1 (2 * k)]
  refine sw_callVL (ci := 6) (as := [.int (nI (2 * k + 1))]) (st := []) (st2 := [.ref (xx_box (σ (5030 + j) (2 * k + 1)) (nmP j (2 * k + 1)))]) O (ct_get hl hbs (lm_pks (σ := σ) (B := B) hB (by omega) (j := j) (by omega) (p := 2 * p) hp (by omega)) (by omega) (i := 2 * k + 1) (x := xx_box (σ (5030 + j) (2 * k + 1)) (nmP j (2 * k + 1))) (by omega) (by omega) rfl) ce_Jx4a65c_get_915e3 ml_X9_20 iv_Jx4a65c_get_915e3 cl_Jx4a65c rfl (lm_pks (σ := σ) (B := B) hB (by omega) (j := j) (by omega) (p := 2 * p) hp (by omega)) (xx_dt dd_X9_amount 7 rfl) (by decide) rfl rfl (Nat.le_of_ble_eq_true rfl) rfl ?_
  refine sw_castO O (xx_dt dd_X9_amount 8 rfl) cl_J6 (lm_pbox (σ := σ) hbs (B := B) hB (by omega) (j := j) (by omega) (p := 2 * p) hp (by omega) (k := 2 * k + 1) (by omega)) cw_X9_24 ?_
  refine sw_callVx (as := []) (st := []) (st2 := [.int (σ (5030 + j) (2 * k + 1))]) O (ct_intValue hl (lm_pbox (σ := σ) hbs (B := B) hB (by omega) (j := j) (by omega) (p := 2 * p) hp (by omega) (k := 2 * k + 1) (by omega)) rfl) ce_J6_intValue_8abf5 ml_X9_26 iv_J6_intValue_8abf5 cl_J6 rfl (lm_pbox (σ := σ) hbs (B := B) hB (by omega) (j := j) (by omega) (p := 2 * p) hp (by omega) (k := 2 * k + 1) (by omega)) (xx_dt dd_X9_amount 9 rfl) (by decide) rfl rfl (Nat.le_of_ble_eq_true rfl) rfl ?_
  exact sw_iret O (xx_dt dd_X9_amount 10 rfl) rfl rfl (by rw [hQ]; exact ⟨by unfold f_Bamount; rfl, rfl⟩)
theorem ct_codeN {l : Launch} {h : XH} (hl : l.stackTraces = false) {z : Int64} {σ : XS9} (hbs : xx_bs h) {B : Nat} (hB : σ 5002 900 = nI B) (hB6 : B ≤ 6) {j : Nat} (hj : j < B) {p : Nat} (hp : σ (5030 + j) 900 = nI (2 * p)) (hp6 : p ≤ 6) {k : Nat} (hk : k < p) {c : Nat} (e : σ (5030 + j) (2 * k) = nI c) : XEx l m_X9_code 3 0 0 [.ref (5020 + j), .int (nI k)] (setM z σ h) (some (.int (nI c))) (setM z σ h) := by
  have t := ct_X9_code (l := l) (h := h) hl (z := z) (σ := σ) hbs hB hB6 hj hp hp6 hk
  unfold f_Bcode at t
  rwa [e] at t
def x_KheldIn_4 (σ : XS9) (b r B g : Nat) (s0 : Int32) : Int32 := xit (fun i4 s4 => s4 + (f_of (σ (b + 2) i4) r)) B 0 s0
def f_KheldIn (σ : XS9) (b r B g : Nat) : Int32 := (x_KheldIn_4 σ b r B g 0)
theorem ct_X11_heldIn {l : Launch} {h : XH} (hl : l.stackTraces = false) {z : Int64} {σ : XS9} (hbs : xx_bs h) {b : Nat} (hb : b = 7000 ∨ b = 8000) (hf : σ b 20 = nI 1) {g : Nat} (hg : σ b 23 = nI g) (hg1 : g < 200) {w : Nat} (hw : σ b 24 = nI w) (hw1 : w < 200) {B : Nat} (hB : σ 5002 900 = nI B) (hB6 : B ≤ 6) {r : Nat} (hr : r < 6) : XEx l m_X11_heldIn 2 0 0 [.ref b, .int (nI r)] (setM z σ h) (some (.int (f_KheldIn σ b r B g))) (setM z σ h) := by
  refine XMet.of hl rfl rfl (Nat.le_of_ble_eq_true rfl) (fun Y O hh hQ => ?_)
  show SW Y 0 0 (setM z σ h) 0 [.ref b, .int (nI r), xx_d, xx_d] []
  refine sw_iconst (x := 0) O (xx_dt dd_X11_heldIn 0 rfl) (by decide) ?_
  refine sw_istore_n (ls2 := [.ref b, .int (nI r), .int 0, xx_d]) O (xx_dt dd_X11_heldIn 1 rfl) (by decide) rfl ?_
  refine sw_iconst (x := 0) O (xx_dt dd_X11_heldIn 2 rfl) (by decide) ?_
  refine sw_istore_n (ls2 := [.ref b, .int (nI r), .int 0, .int 0]) O (xx_dt dd_X11_heldIn 3 rfl) (by decide) rfl ?_
  refine sw_for (S := Int32) (fun i4 s4 => s4 + (f_of (σ (b + 2) i4) r)) (fun _ _ => True) (hp := fun _ => setM z σ h) (hd := 4) (lc := fun i4 s4 => [.ref b, .int (nI r), .int s4, .int (nI i4)]) (N := B) (fun i4 s4 hi4 hP4 => ⟨trivial, fun kk4 => ?_⟩) B 0 0 (by omega) (trivial) (fun hP4 => ?_)
  · refine sw_iload_n O (xx_dt dd_X11_heldIn 4 rfl) rfl ?_
    refine sw_aload_n O (xx_dt dd_X11_heldIn 5 rfl) rfl ?_
    refine sw_get (v := .ref 5000) O (xx_dt dd_X11_heldIn 6 rfl) cl_X11 fl_X11_3 (lm_clk (σ := σ) (b := b) hb (fl1 hf) (g := g) hg (by omega) (w := w) hw (by omega)) (by decide) rfl ?_
    refine sw_get (v := .ref 5002) O (xx_dt dd_X11_heldIn 7 rfl) cl_X14 fl_X11_69 (lm_mod (σ := σ)) (by decide) rfl ?_
    refine sw_callVL (ci := 6) (as := []) (st := [.int (nI i4)]) (st2 := [.int (nI B), .int (nI i4)]) O (ct_AL_size hl (lm_5002 (σ := σ) (B := B) hB (by omega))) ce_Jx4a65c_size_8abf5 ml_X11_19 iv_Jx4a65c_size_8abf5 cl_Jx4a65c rfl (lm_5002 (σ := σ) (B := B) hB (by omega)) (xx_dt dd_X11_heldIn 8 rfl) (by decide) rfl rfl (Nat.le_of_ble_eq_true rfl) rfl ?_
    refine sw_icmp_ge (tgt := 37) O (xx_dt dd_X11_heldIn 9 rfl) (by decide) (fun q1 => ?_) (fun q1 => ?_)
    · exact absurd q1 (nI_ge (b := B) hi4 (by omega))
    · refine sw_iload_n O (xx_dt dd_X11_heldIn 10 rfl) rfl ?_
      refine sw_aload_n O (xx_dt dd_X11_heldIn 11 rfl) rfl ?_
      refine sw_get (v := .ref (b + 2)) O (xx_dt dd_X11_heldIn 12 rfl) cl_X11 fl_X11_33 (lm_clk (σ := σ) (b := b) hb (fl1 hf) (g := g) hg (by omega) (w := w) hw (by omega)) (by decide) rfl ?_
      refine sw_iload_n O (xx_dt dd_X11_heldIn 13 rfl) rfl ?_
      refine sw_iaload (v := .int (σ (b + 2) i4)) O (xx_dt dd_X11_heldIn 14 rfl) ((im_khe (z := z) (σ := σ) (b := b) hb hf).get _) (pk_in i4 _ (by omega)) (by rw [nI_clamp (by omega)]; try exact rfl) ?_
      refine sw_iload_n O (xx_dt dd_X11_heldIn 15 rfl) rfl ?_
      refine sw_callSx (as := [.int (σ (b + 2) i4), .int (nI r)]) (st := [.int s4]) (st2 := [.int (f_of (σ (b + 2) i4) r), .int s4]) O (ct_X14_of hl (c := σ (b + 2) i4) (r := r) (by omega)) ce_X14_of ml_X11_76 st_X14_of (xx_dt dd_X11_heldIn 16 rfl) (by decide) rfl rfl (Nat.le_of_ble_eq_true rfl) rfl ?_
      refine sw_iadd O (xx_dt dd_X11_heldIn 17 rfl) ?_
      refine sw_istore_n (ls2 := [.ref b, .int (nI r), .int (s4 + (f_of (σ (b + 2) i4) r)), .int (nI i4)]) O (xx_dt dd_X11_heldIn 18 rfl) (by decide) rfl ?_
      refine sw_iinc (y := nI (i4 + 1)) (ls2 := [.ref b, .int (nI r), .int (s4 + (f_of (σ (b + 2) i4) r)), .int (nI (i4 + 1))]) O (xx_dt dd_X11_heldIn 19 rfl) rfl (nI_1 _) (by decide) rfl ?_
      refine sw_goto (tgt := 4) O (xx_dt dd_X11_heldIn 20 rfl) (by decide) ?_
      exact kk4
  · show SW Y _ _ (setM z σ h) 4 [.ref b, .int (nI r), .int (x_KheldIn_4 σ b r B g 0), .int (nI B)] []
    refine sw_iload_n O (xx_dt dd_X11_heldIn 4 rfl) rfl ?_
    refine sw_aload_n O (xx_dt dd_X11_heldIn 5 rfl) rfl ?_
    refine sw_get (v := .ref 5000) O (xx_dt dd_X11_heldIn 6 rfl) cl_X11 fl_X11_3 (lm_clk (σ := σ) (b := b) hb (fl1 hf) (g := g) hg (by omega) (w := w) hw (by omega)) (by decide) rfl ?_
    refine sw_get (v := .ref 5002) O (xx_dt dd_X11_heldIn 7 rfl) cl_X14 fl_X11_69 (lm_mod (σ := σ)) (by decide) rfl ?_
    refine sw_callVL (ci := 6) (as := []) (st := [.int (nI B)]) (st2 := [.int (nI B), .int (nI B)]) O (ct_AL_size hl (lm_5002 (σ := σ) (B := B) hB (by omega))) ce_Jx4a65c_size_8abf5 ml_X11_19 iv_Jx4a65c_size_8abf5 cl_Jx4a65c rfl (lm_5002 (σ := σ) (B := B) hB (by omega)) (xx_dt dd_X11_heldIn 8 rfl) (by decide) rfl rfl (Nat.le_of_ble_eq_true rfl) rfl ?_
    refine sw_icmp_ge (tgt := 37) O (xx_dt dd_X11_heldIn 9 rfl) (by decide) (fun q1 => ?_) (fun q1 => ?_)
    · refine sw_iload_n O (xx_dt dd_X11_heldIn 21 rfl) rfl ?_
      exact sw_iret O (xx_dt dd_X11_heldIn 22 rfl) rfl rfl (by rw [hQ]; exact ⟨by unfold f_KheldIn; rfl, rfl⟩)
    · exact absurd (Int32.le_refl _) q1
def x_KwishedIn_4 (σ : XS9) (b r B g : Nat) (s0 : Int32) : Int32 := xit (fun i4 s4 => s4 + (f_of (σ (b + 500 + g) i4) r)) B 0 s0
def f_KwishedIn (σ : XS9) (b r B g : Nat) : Int32 := (x_KwishedIn_4 σ b r B g 0)
theorem ct_X11_wishedIn {l : Launch} {h : XH} (hl : l.stackTraces = false) {z : Int64} {σ : XS9} (hbs : xx_bs h) {b : Nat} (hb : b = 7000 ∨ b = 8000) (hf : σ b 20 = nI 1) {g : Nat} (hg : σ b 23 = nI g) (hg1 : g < 200) {w : Nat} (hw : σ b 24 = nI w) (hw1 : w < 200) {B : Nat} (hB : σ 5002 900 = nI B) (hB6 : B ≤ 6) {r : Nat} (hr : r < 6) : XEx l m_X11_wishedIn 2 0 0 [.ref b, .int (nI r)] (setM z σ h) (some (.int (f_KwishedIn σ b r B g))) (setM z σ h) := by
  refine XMet.of hl rfl rfl (Nat.le_of_ble_eq_true rfl) (fun Y O hh hQ => ?_)
  show SW Y 0 0 (setM z σ h) 0 [.ref b, .int (nI r), xx_d, xx_d] []
  refine sw_iconst (x := 0) O (xx_dt dd_X11_wishedIn 0 rfl) (by decide) ?_
  refine sw_istore_n (ls2 := [.ref b, .int (nI r), .int 0, xx_d]) O (xx_dt dd_X11_wishedIn 1 rfl) (by decide) rfl ?_
  refine sw_iconst (x := 0) O (xx_dt dd_X11_wishedIn 2 rfl) (by decide) ?_
  refine sw_istore_n (ls2 := [.ref b, .int (nI r), .int 0, .int 0]) O (xx_dt dd_X11_wishedIn 3 rfl) (by decide) rfl ?_
  refine sw_for (S := Int32) (fun i4 s4 => s4 + (f_of (σ (b + 500 + g) i4) r)) (fun _ _ => True) (hp := fun _ => setM z σ h) (hd := 4) (lc := fun i4 s4 => [.ref b, .int (nI r), .int s4, .int (nI i4)]) (N := B) (fun i4 s4 hi4 hP4 => ⟨trivial, fun kk4 => ?_⟩) B 0 0 (by omega) (trivial) (fun hP4 => ?_)
  · refine sw_iload_n O (xx_dt dd_X11_wishedIn 4 rfl) rfl ?_
    refine sw_aload_n O (xx_dt dd_X11_wishedIn 5 rfl) rfl ?_
    refine sw_get (v := .ref 5000) O (xx_dt dd_X11_wishedIn 6 rfl) cl_X11 fl_X11_3 (lm_clk (σ := σ) (b := b) hb (fl1 hf) (g := g) hg (by omega) (w := w) hw (by omega)) (by decide) rfl ?_
    refine sw_get (v := .ref 5002) O (xx_dt dd_X11_wishedIn 7 rfl) cl_X14 fl_X11_69 (lm_mod (σ := σ)) (by decide) rfl ?_
    refine sw_callVL (ci := 6) (as := []) (st := [.int (nI i4)]) (st2 := [.int (nI B), .int (nI i4)]) O (ct_AL_size hl (lm_5002 (σ := σ) (B := B) hB (by omega))) ce_Jx4a65c_size_8abf5 ml_X11_19 iv_Jx4a65c_size_8abf5 cl_Jx4a65c rfl (lm_5002 (σ := σ) (B := B) hB (by omega)) (xx_dt dd_X11_wishedIn 8 rfl) (by decide) rfl rfl (Nat.le_of_ble_eq_true rfl) rfl ?_
    refine sw_icmp_ge (tgt := 37) O (xx_dt dd_X11_wishedIn 9 rfl) (by decide) (fun q1 => ?_) (fun q1 => ?_)
    · exact absurd q1 (nI_ge (b := B) hi4 (by omega))
    · refine sw_iload_n O (xx_dt dd_X11_wishedIn 10 rfl) rfl ?_
      refine sw_aload_n O (xx_dt dd_X11_wishedIn 11 rfl) rfl ?_
      refine sw_get (v := .ref (b + 500 + g)) O (xx_dt dd_X11_wishedIn 12 rfl) cl_X11 fl_X11_36 (lm_clk (σ := σ) (b := b) hb (fl1 hf) (g := g) hg (by omega) (w := w) hw (by omega)) (by decide) rfl ?_
      refine sw_iload_n O (xx_dt dd_X11_wishedIn 13 rfl) rfl ?_
      refine sw_iaload (v := .int (σ (b + 500 + g) i4)) O (xx_dt dd_X11_wishedIn 14 rfl) ((im_wsh (z := z) (σ := σ) (b := b) hb hf (g := g) hg (by omega) (j := g) (by omega)).get _) (pk_in i4 _ (by omega)) (by rw [nI_clamp (by omega)]; try exact rfl) ?_
      refine sw_iload_n O (xx_dt dd_X11_wishedIn 15 rfl) rfl ?_
      refine sw_callSx (as := [.int (σ (b + 500 + g) i4), .int (nI r)]) (st := [.int s4]) (st2 := [.int (f_of (σ (b + 500 + g) i4) r), .int s4]) O (ct_X14_of hl (c := σ (b + 500 + g) i4) (r := r) (by omega)) ce_X14_of ml_X11_76 st_X14_of (xx_dt dd_X11_wishedIn 16 rfl) (by decide) rfl rfl (Nat.le_of_ble_eq_true rfl) rfl ?_
      refine sw_iadd O (xx_dt dd_X11_wishedIn 17 rfl) ?_
      refine sw_istore_n (ls2 := [.ref b, .int (nI r), .int (s4 + (f_of (σ (b + 500 + g) i4) r)), .int (nI i4)]) O (xx_dt dd_X11_wishedIn 18 rfl) (by decide) rfl ?_
      refine sw_iinc (y := nI (i4 + 1)) (ls2 := [.ref b, .int (nI r), .int (s4 + (f_of (σ (b + 500 + g) i4) r)), .int (nI (i4 + 1))]) O (xx_dt dd_X11_wishedIn 19 rfl) rfl (nI_1 _) (by decide) rfl ?_
      refine sw_goto (tgt := 4) O (xx_dt dd_X11_wishedIn 20 rfl) (by decide) ?_
      exact kk4
  · show SW Y _ _ (setM z σ h) 4 [.ref b, .int (nI r), .int (x_KwishedIn_4 σ b r B g 0), .int (nI B)] []
    refine sw_iload_n O (xx_dt dd_X11_wishedIn 4 rfl) rfl ?_
    refine sw_aload_n O (xx_dt dd_X11_wishedIn 5 rfl) rfl ?_
    refine sw_get (v := .ref 5000) O (xx_dt dd_X11_wishedIn 6 rfl) cl_X11 fl_X11_3 (lm_clk (σ := σ) (b := b) hb (fl1 hf) (g := g) hg (by omega) (w := w) hw (by omega)) (by decide) rfl ?_
    refine sw_get (v := .ref 5002) O (xx_dt dd_X11_wishedIn 7 rfl) cl_X14 fl_X11_69 (lm_mod (σ := σ)) (by decide) rfl ?_
    refine sw_callVL (ci := 6) (as := []) (st := [.int (nI B)]) (st2 := [.int (nI B), .int (nI B)]) O (ct_AL_size hl (lm_5002 (σ := σ) (B := B) hB (by omega))) ce_Jx4a65c_size_8abf5 ml_X11_19 iv_Jx4a65c_size_8abf5 cl_Jx4a65c rfl (lm_5002 (σ := σ) (B := B) hB (by omega)) (xx_dt dd_X11_wishedIn 8 rfl) (by decide) rfl rfl (Nat.le_of_ble_eq_true rfl) rfl ?_
    refine sw_icmp_ge (tgt := 37) O (xx_dt dd_X11_wishedIn 9 rfl) (by decide) (fun q1 => ?_) (fun q1 => ?_)
    · refine sw_iload_n O (xx_dt dd_X11_wishedIn 21 rfl) rfl ?_
      exact sw_iret O (xx_dt dd_X11_wishedIn 22 rfl) rfl rfl (by rw [hQ]; exact ⟨by unfold f_KwishedIn; rfl, rfl⟩)
    · exact absurd (Int32.le_refl _) q1
def x_Kcontradicts_18 (σ : XS9) (b i R g n i2 : Nat) (s0 : Int32) : Int32 := xit (fun i18 s18 => s18 + (((σ (b + 1) i18) - (σ (b + 100 + i2) i18)) * ((f_of (σ (b + 500 + g) i) i18) - (f_of (σ (b + 200 + i2) i) i18)))) R 0 s0
def x_Kcontradicts_2 (σ : XS9) (b i R g n : Nat) (s0 : Unit) : Unit ⊕ Int32 := xitR (fun i2 s2 => (if (x_Kcontradicts_18 σ b i R g n i2 0) ≤ 0 then .inl () else .inr (nI (i2 + 1)))) n 0 s0
def f_Kcontradicts (σ : XS9) (b i R g n : Nat) : Int32 := (match (x_Kcontradicts_2 σ b i R g n ()) with | .inl s2 => (-1) | .inr r2 => r2)
theorem ct_X11_contradicts {l : Launch} {h : XH} (hl : l.stackTraces = false) {z : Int64} {σ : XS9} (hbs : xx_bs h) {b : Nat} (hb : b = 7000 ∨ b = 8000) (hf : σ b 20 = nI 1) {g : Nat} (hg : σ b 23 = nI g) (hg1 : g < 200) {w : Nat} (hw : σ b 24 = nI w) (hw1 : w < 200) {R : Nat} (hR : σ 5001 900 = nI R) (hR5 : R ≤ 5) {n : Nat} (hn : σ b 21 = nI n) (hn60 : n ≤ 60) (hn2 : σ b 22 = nI n) {i : Nat} (hi : i < 6) : XEx l m_X11_contradicts 3 0 0 [.ref b, .int (nI i)] (setM z σ h) (some (.int (f_Kcontradicts σ b i R g n))) (setM z σ h) := by
  refine XMet.of hl rfl rfl (Nat.le_of_ble_eq_true rfl) (fun Y O hh hQ => ?_)
  show SW Y 0 0 (setM z σ h) 0 [.ref b, .int (nI i), xx_d, xx_d, xx_d] []
  refine sw_iconst (x := 0) O (xx_dt dd_X11_contradicts 0 rfl) (by decide) ?_
  refine sw_istore_n (ls2 := [.ref b, .int (nI i), .int 0, xx_d, xx_d]) O (xx_dt dd_X11_contradicts 1 rfl) (by decide) rfl ?_
  refine sw_forR (S := Unit) (R := Int32) (fun i2 s2 => (if (x_Kcontradicts_18 σ b i R g n i2 0) ≤ 0 then .inl () else .inr (nI (i2 + 1)))) (fun _ _ => True) (FR := fun r9 => f_Kcontradicts σ b i R g n = r9) (hp := fun _ => setM z σ h) (hd := 2) (lc := fun i2 s2 => [.ref b, .int (nI i), .int (nI i2), xx_d, xx_d]) (N := n) (fun i2 s2 hi2 hP2 => ⟨fun _ _ => trivial, fun kk2 kr2 => ?_⟩) n 0 () (by omega) (trivial) (fun sN2 eN2 hP2 => ?_) (fun r2 eN2 => ?_)
  · refine sw_iload_n O (xx_dt dd_X11_contradicts 2 rfl) rfl ?_
    refine sw_aload_n O (xx_dt dd_X11_contradicts 3 rfl) rfl ?_
    refine sw_get (v := .ref (b + 6)) O (xx_dt dd_X11_contradicts 4 rfl) cl_X11 fl_X11_53 (lm_clk (σ := σ) (b := b) hb (fl1 hf) (g := g) hg (by omega) (w := w) hw (by omega)) (by decide) rfl ?_
    refine sw_callVL (ci := 6) (as := []) (st := [.int (nI i2)]) (st2 := [.int (nI n), .int (nI i2)]) O (ct_AL_size hl (lm_kop (σ := σ) (b := b) hb (fl1 hf) (n := n) hn (by omega))) ce_Jx4a65c_size_8abf5 ml_X11_19 iv_Jx4a65c_size_8abf5 cl_Jx4a65c rfl (lm_kop (σ := σ) (b := b) hb (fl1 hf) (n := n) hn (by omega)) (xx_dt dd_X11_contradicts 5 rfl) (by decide) rfl rfl (Nat.le_of_ble_eq_true rfl) rfl ?_
    refine sw_icmp_ge (tgt := 104) O (xx_dt dd_X11_contradicts 6 rfl) (by decide) (fun q1 => ?_) (fun q1 => ?_)
    · exact absurd q1 (nI_ge (b := n) hi2 (by omega))
    · refine sw_iconst (x := 0) O (xx_dt dd_X11_contradicts 7 rfl) (by decide) ?_
      refine sw_istore_n (ls2 := [.ref b, .int (nI i), .int (nI i2), .int 0, xx_d]) O (xx_dt dd_X11_contradicts 8 rfl) (by decide) rfl ?_
      refine sw_iconst (x := 0) O (xx_dt dd_X11_contradicts 9 rfl) (by decide) ?_
      refine sw_istore (ls2 := [.ref b, .int (nI i), .int (nI i2), .int 0, .int 0]) O (xx_dt dd_X11_contradicts 10 rfl) (by decide) rfl ?_
      refine sw_for (S := Int32) (fun i18 s18 => s18 + (((σ (b + 1) i18) - (σ (b + 100 + i2) i18)) * ((f_of (σ (b + 500 + g) i) i18) - (f_of (σ (b + 200 + i2) i) i18)))) (fun _ _ => True) (hp := fun _ => setM z σ h) (hd := 18) (lc := fun i18 s18 => [.ref b, .int (nI i), .int (nI i2), .int s18, .int (nI i18)]) (N := R) (fun i18 s18 hi18 hP18 => ⟨trivial, fun kk18 => ?_⟩) R 0 0 (by omega) (trivial) (fun hP18 => ?_)
      · refine sw_iload O (xx_dt dd_X11_contradicts 11 rfl) rfl ?_
        refine sw_aload_n O (xx_dt dd_X11_contradicts 12 rfl) rfl ?_
        refine sw_get (v := .ref (b + 1)) O (xx_dt dd_X11_contradicts 13 rfl) cl_X11 fl_X11_25 (lm_clk (σ := σ) (b := b) hb (fl1 hf) (g := g) hg (by omega) (w := w) hw (by omega)) (by decide) rfl ?_
        refine sw_alen O (xx_dt dd_X11_contradicts 14 rfl) (by omega) (by omega) ((im_kpr (z := z) (σ := σ) (b := b) hb hf (R := R) hR (by omega)).get _) ?_
        refine sw_icmp_ge (tgt := 90) O (xx_dt dd_X11_contradicts 15 rfl) (by decide) (fun q2 => ?_) (fun q2 => ?_)
        · exact absurd q2 (nI_ge (b := R) hi18 (by omega))
        · refine sw_iload_n O (xx_dt dd_X11_contradicts 16 rfl) rfl ?_
          refine sw_aload_n O (xx_dt dd_X11_contradicts 17 rfl) rfl ?_
          refine sw_get (v := .ref (b + 1)) O (xx_dt dd_X11_contradicts 18 rfl) cl_X11 fl_X11_25 (lm_clk (σ := σ) (b := b) hb (fl1 hf) (g := g) hg (by omega) (w := w) hw (by omega)) (by decide) rfl ?_
          refine sw_iload O (xx_dt dd_X11_contradicts 19 rfl) rfl ?_
          refine sw_iaload (v := .int (σ (b + 1) i18)) O (xx_dt dd_X11_contradicts 20 rfl) ((im_kpr (z := z) (σ := σ) (b := b) hb hf (R := R) hR (by omega)).get _) (pk_in i18 _ (by omega)) (by rw [nI_clamp (by omega)]; try exact rfl) ?_
          refine sw_aload_n O (xx_dt dd_X11_contradicts 21 rfl) rfl ?_
          refine sw_get (v := .ref (b + 6)) O (xx_dt dd_X11_contradicts 22 rfl) cl_X11 fl_X11_53 (lm_clk (σ := σ) (b := b) hb (fl1 hf) (g := g) hg (by omega) (w := w) hw (by omega)) (by decide) rfl ?_
          refine sw_iload_n O (xx_dt dd_X11_contradicts 23 rfl) rfl ?_
          refine sw_callVL (ci := 6) (as := [.int (nI i2)]) (st := [.int (σ (b + 1) i18), .int s18]) (st2 := [.ref (b + 100 + i2), .int (σ (b + 1) i18), .int s18]) O (ct_get hl hbs (lm_kop (σ := σ) (b := b) hb (fl1 hf) (n := n) hn (by omega)) (by omega) (i := i2) (x := b + 100 + i2) (by omega) (by omega) rfl) ce_Jx4a65c_get_915e3 ml_X11_59 iv_Jx4a65c_get_915e3 cl_Jx4a65c rfl (lm_kop (σ := σ) (b := b) hb (fl1 hf) (n := n) hn (by omega)) (xx_dt dd_X11_contradicts 24 rfl) (by decide) rfl rfl (Nat.le_of_ble_eq_true rfl) rfl ?_
          refine sw_castA (t := 100) O (xx_dt dd_X11_contradicts 25 rfl) (.inl rfl) ((im_opr (z := z) (σ := σ) (b := b) hb hf (R := R) hR (by omega) (n := n) hn (by omega) (j := i2) (by omega)).get _) cw_X11_80 ?_
          refine sw_iload O (xx_dt dd_X11_contradicts 26 rfl) rfl ?_
          refine sw_iaload (v := .int (σ (b + 100 + i2) i18)) O (xx_dt dd_X11_contradicts 27 rfl) ((im_opr (z := z) (σ := σ) (b := b) hb hf (R := R) hR (by omega) (n := n) hn (by omega) (j := i2) (by omega)).get _) (pk_in i18 _ (by omega)) (by rw [nI_clamp (by omega)]; try exact rfl) ?_
          refine sw_isub O (xx_dt dd_X11_contradicts 28 rfl) ?_
          refine sw_aload_n O (xx_dt dd_X11_contradicts 29 rfl) rfl ?_
          refine sw_get (v := .ref (b + 500 + g)) O (xx_dt dd_X11_contradicts 30 rfl) cl_X11 fl_X11_36 (lm_clk (σ := σ) (b := b) hb (fl1 hf) (g := g) hg (by omega) (w := w) hw (by omega)) (by decide) rfl ?_
          refine sw_iload_n O (xx_dt dd_X11_contradicts 31 rfl) rfl ?_
          refine sw_iaload (v := .int (σ (b + 500 + g) i)) O (xx_dt dd_X11_contradicts 32 rfl) ((im_wsh (z := z) (σ := σ) (b := b) hb hf (g := g) hg (by omega) (j := g) (by omega)).get _) (pk_in i _ (by omega)) (by rw [nI_clamp (by omega)]; try exact rfl) ?_
          refine sw_iload O (xx_dt dd_X11_contradicts 33 rfl) rfl ?_
          refine sw_callSx (as := [.int (σ (b + 500 + g) i), .int (nI i18)]) (st := [.int ((σ (b + 1) i18) - (σ (b + 100 + i2) i18)), .int s18]) (st2 := [.int (f_of (σ (b + 500 + g) i) i18), .int ((σ (b + 1) i18) - (σ (b + 100 + i2) i18)), .int s18]) O (ct_X14_of hl (c := σ (b + 500 + g) i) (r := i18) (by omega)) ce_X14_of ml_X11_76 st_X14_of (xx_dt dd_X11_contradicts 34 rfl) (by decide) rfl rfl (Nat.le_of_ble_eq_true rfl) rfl ?_
          refine sw_aload_n O (xx_dt dd_X11_contradicts 35 rfl) rfl ?_
          refine sw_get (v := .ref (b + 7)) O (xx_dt dd_X11_contradicts 36 rfl) cl_X11 fl_X11_56 (lm_clk (σ := σ) (b := b) hb (fl1 hf) (g := g) hg (by omega) (w := w) hw (by omega)) (by decide) rfl ?_
          refine sw_iload_n O (xx_dt dd_X11_contradicts 37 rfl) rfl ?_
          refine sw_callVL (ci := 6) (as := [.int (nI i2)]) (st := [.int (f_of (σ (b + 500 + g) i) i18), .int ((σ (b + 1) i18) - (σ (b + 100 + i2) i18)), .int s18]) (st2 := [.ref (b + 200 + i2), .int (f_of (σ (b + 500 + g) i) i18), .int ((σ (b + 1) i18) - (σ (b + 100 + i2) i18)), .int s18]) O (ct_get hl hbs (lm_koh (σ := σ) (b := b) hb (fl1 hf) (n := n) hn2 (by omega)) (by omega) (i := i2) (x := b + 200 + i2) (by omega) (by omega) rfl) ce_Jx4a65c_get_915e3 ml_X11_59 iv_Jx4a65c_get_915e3 cl_Jx4a65c rfl (lm_koh (σ := σ) (b := b) hb (fl1 hf) (n := n) hn2 (by omega)) (xx_dt dd_X11_contradicts 38 rfl) (by decide) rfl rfl (Nat.le_of_ble_eq_true rfl) rfl ?_
          refine sw_castA (t := 100) O (xx_dt dd_X11_contradicts 39 rfl) (.inl rfl) ((im_ohe (z := z) (σ := σ) (b := b) hb hf (n := n) hn2 (by omega) (j := i2) (by omega)).get _) cw_X11_80 ?_
          refine sw_iload_n O (xx_dt dd_X11_contradicts 40 rfl) rfl ?_
          refine sw_iaload (v := .int (σ (b + 200 + i2) i)) O (xx_dt dd_X11_contradicts 41 rfl) ((im_ohe (z := z) (σ := σ) (b := b) hb hf (n := n) hn2 (by omega) (j := i2) (by omega)).get _) (pk_in i _ (by omega)) (by rw [nI_clamp (by omega)]; try exact rfl) ?_
          refine sw_iload O (xx_dt dd_X11_contradicts 42 rfl) rfl ?_
          refine sw_callSx (as := [.int (σ (b + 200 + i2) i), .int (nI i18)]) (st := [.int (f_of (σ (b + 500 + g) i) i18), .int ((σ (b + 1) i18) - (σ (b + 100 + i2) i18)), .int s18]) (st2 := [.int (f_of (σ (b + 200 + i2) i) i18), .int (f_of (σ (b + 500 + g) i) i18), .int ((σ (b + 1) i18) - (σ (b + 100 + i2) i18)), .int s18]) O (ct_X14_of hl (c := σ (b + 200 + i2) i) (r := i18) (by omega)) ce_X14_of ml_X11_76 st_X14_of (xx_dt dd_X11_contradicts 43 rfl) (by decide) rfl rfl (Nat.le_of_ble_eq_true rfl) rfl ?_
          refine sw_isub O (xx_dt dd_X11_contradicts 44 rfl) ?_
          refine sw_imul O (xx_dt dd_X11_contradicts 45 rfl) ?_
          refine sw_iadd O (xx_dt dd_X11_contradicts 46 rfl) ?_
          refine sw_istore_n (ls2 := [.ref b, .int (nI i), .int (nI i2), .int (s18 + (((σ (b + 1) i18) - (σ (b + 100 + i2) i18)) * ((f_of (σ (b + 500 + g) i) i18) - (f_of (σ (b + 200 + i2) i) i18)))), .int (nI i18)]) O (xx_dt dd_X11_contradicts 47 rfl) (by decide) rfl ?_
          refine sw_iinc (y := nI (i18 + 1)) (ls2 := [.ref b, .int (nI i), .int (nI i2), .int (s18 + (((σ (b + 1) i18) - (σ (b + 100 + i2) i18)) * ((f_of (σ (b + 500 + g) i) i18) - (f_of (σ (b + 200 + i2) i) i18)))), .int (nI (i18 + 1))]) O (xx_dt dd_X11_contradicts 48 rfl) rfl (nI_1 _) (by decide) rfl ?_
          refine sw_goto (tgt := 18) O (xx_dt dd_X11_contradicts 49 rfl) (by decide) ?_
          exact kk18
      · show SW Y _ _ (setM z σ h) 18 [.ref b, .int (nI i), .int (nI i2), .int (x_Kcontradicts_18 σ b i R g n i2 0), .int (nI R)] []
        refine sw_iload O (xx_dt dd_X11_contradicts 11 rfl) rfl ?_
        refine sw_aload_n O (xx_dt dd_X11_contradicts 12 rfl) rfl ?_
        refine sw_get (v := .ref (b + 1)) O (xx_dt dd_X11_contradicts 13 rfl) cl_X11 fl_X11_25 (lm_clk (σ := σ) (b := b) hb (fl1 hf) (g := g) hg (by omega) (w := w) hw (by omega)) (by decide) rfl ?_
        refine sw_alen O (xx_dt dd_X11_contradicts 14 rfl) (by omega) (by omega) ((im_kpr (z := z) (σ := σ) (b := b) hb hf (R := R) hR (by omega)).get _) ?_
        refine sw_icmp_ge (tgt := 90) O (xx_dt dd_X11_contradicts 15 rfl) (by decide) (fun q2 => ?_) (fun q2 => ?_)
        · refine sw_iload_n O (xx_dt dd_X11_contradicts 50 rfl) rfl ?_
          refine sw_if_le (tgt := 98) O (xx_dt dd_X11_contradicts 51 rfl) (by decide) (fun q3 => ?_) (fun q3 => ?_)
          · refine sw_iinc (y := nI (i2 + 1)) (ls2 := [.ref b, .int (nI i), .int (nI (i2 + 1)), .int (x_Kcontradicts_18 σ b i R g n i2 0), .int (nI R)]) O (xx_dt dd_X11_contradicts 56 rfl) rfl (nI_1 _) (by decide) rfl ?_
            refine sw_goto (tgt := 2) O (xx_dt dd_X11_contradicts 57 rfl) (by decide) ?_
            refine sw_dum (ls2 := [.ref b, .int (nI i), .int (nI (i2 + 1)), xx_d, xx_d]) ⟨.inr rfl, .inr rfl, .inr rfl, .inl rfl, .inl rfl, trivial⟩ ?_
            exact kk2 () (by simp only [if_pos q3])
          · refine sw_iload_n O (xx_dt dd_X11_contradicts 52 rfl) rfl ?_
            refine sw_iconst (x := 1) O (xx_dt dd_X11_contradicts 53 rfl) (by decide) ?_
            refine sw_iadd O (xx_dt dd_X11_contradicts 54 rfl) ?_
            rw [nI_a1 i2]
            exact sw_iret O (xx_dt dd_X11_contradicts 55 rfl) rfl rfl (by rw [hQ, kr2 (nI (i2 + 1)) (by simp only [if_neg q3])]; exact ⟨rfl, rfl⟩)
        · exact absurd (Int32.le_refl _) q2
  · show SW Y _ _ (setM z σ h) 2 [.ref b, .int (nI i), .int (nI n), xx_d, xx_d] []
    refine sw_iload_n O (xx_dt dd_X11_contradicts 2 rfl) rfl ?_
    refine sw_aload_n O (xx_dt dd_X11_contradicts 3 rfl) rfl ?_
    refine sw_get (v := .ref (b + 6)) O (xx_dt dd_X11_contradicts 4 rfl) cl_X11 fl_X11_53 (lm_clk (σ := σ) (b := b) hb (fl1 hf) (g := g) hg (by omega) (w := w) hw (by omega)) (by decide) rfl ?_
    refine sw_callVL (ci := 6) (as := []) (st := [.int (nI n)]) (st2 := [.int (nI n), .int (nI n)]) O (ct_AL_size hl (lm_kop (σ := σ) (b := b) hb (fl1 hf) (n := n) hn (by omega))) ce_Jx4a65c_size_8abf5 ml_X11_19 iv_Jx4a65c_size_8abf5 cl_Jx4a65c rfl (lm_kop (σ := σ) (b := b) hb (fl1 hf) (n := n) hn (by omega)) (xx_dt dd_X11_contradicts 5 rfl) (by decide) rfl rfl (Nat.le_of_ble_eq_true rfl) rfl ?_
    refine sw_icmp_ge (tgt := 104) O (xx_dt dd_X11_contradicts 6 rfl) (by decide) (fun q1 => ?_) (fun q1 => ?_)
    · refine sw_iconst (x := (-1)) O (xx_dt dd_X11_contradicts 58 rfl) (by decide) ?_
      exact sw_iret O (xx_dt dd_X11_contradicts 59 rfl) rfl rfl (by rw [hQ]; exact ⟨by unfold f_Kcontradicts; simp only [x_Kcontradicts_2, eN2], rfl⟩)
    · exact absurd (Int32.le_refl _) q1
  · unfold f_Kcontradicts; simp only [x_Kcontradicts_2, eN2]
end
section
/-! ===== the reference: what is only read, the model's ===== -/
theorem nB_lt {x : Int32} {C : Nat} (hC : C ≤ 10) : (¬ x < 0 ∧ x < (1 : Int32) <<< (nI C &&& 31)) ↔ n_lt x (2 ^ C) := by
  have e : (1 : Int32) <<< (nI C &&& 31) = nI (2 ^ C) := by
    have : ∀ a : Fin 11, (1 : Int32) <<< (nI a.1 &&& 31) = nI (2 ^ a.1) := by decide +kernel
    exact this ⟨C, by omega⟩
  have h2 : 2 ^ C ≤ 1024 := by
    have : ∀ a : Fin 11, 2 ^ a.1 ≤ 1024 := by decide
    exact this ⟨C, by omega⟩
  rw [e, n_lt_iff (by omega)]
def f_MareStations (σ : XS9) (x : Int32) (C : Nat) : Int32 := (if x < 0 then 0 else (if (1 <<< ((nI C) &&& 31)) ≤ x then 0 else 1))
theorem ct_areStations0 {l : Launch} {h : XH} (hl : l.stackTraces = false) {z : Int64} {σ : XS9} (hbs : xx_bs h) {C : Nat} (hS : σ 5004 900 = nI (2 * C)) (hC10 : C ≤ 10) {x : Int32} : XEx l m_X14_areStations 1 0 0 [.ref 5000, .int x] (setM z σ h) (some (.int (f_MareStations σ x C))) (setM z σ h) := by
  refine XMet.of hl rfl rfl (Nat.le_of_ble_eq_true rfl) (fun Y O hh hQ => ?_)
  show SW Y 0 0 (setM z σ h) 0 [.ref 5000, .int x] []
  refine sw_iload_n O (xx_dt dd_X14_areStations 0 rfl) rfl ?_
  refine sw_if_lt (tgt := 23) O (xx_dt dd_X14_areStations 1 rfl) (by decide) (fun q1 => ?_) (fun q1 => ?_)
  · refine sw_iconst (x := 0) O (xx_dt dd_X14_areStations 13 rfl) (by decide) ?_
    exact sw_iret O (xx_dt dd_X14_areStations 14 rfl) rfl rfl (by rw [hQ]; exact ⟨by unfold f_MareStations; simp only [if_pos q1], rfl⟩)
  · refine sw_iload_n O (xx_dt dd_X14_areStations 2 rfl) rfl ?_
    refine sw_iconst (x := 1) O (xx_dt dd_X14_areStations 3 rfl) (by decide) ?_
    refine sw_aload_n O (xx_dt dd_X14_areStations 4 rfl) rfl ?_
    refine sw_get (v := .ref 5004) O (xx_dt dd_X14_areStations 5 rfl) cl_X14 fl_X14_33 (lm_mod (σ := σ)) (by decide) rfl ?_
    refine sw_callVL (ci := 6) (as := []) (st := [.int 1, .int x]) (st2 := [.int (nI (2 * C)), .int 1, .int x]) O (ct_AL_size hl (lm_5004 (σ := σ) (S := 2 * C) hS (by omega))) ce_Jx4a65c_size_8abf5 ml_X14_57 iv_Jx4a65c_size_8abf5 cl_Jx4a65c rfl (lm_5004 (σ := σ) (S := 2 * C) hS (by omega)) (xx_dt dd_X14_areStations 6 rfl) (by decide) rfl rfl (Nat.le_of_ble_eq_true rfl) rfl ?_
    refine sw_iconst (x := 2) O (xx_dt dd_X14_areStations 7 rfl) (by decide) ?_
    refine sw_idiv O (xx_dt dd_X14_areStations 8 rfl) (by first | decide | assumption) ?_
    have hx14 := trivial
    rw [nI_half (by omega)]
    refine sw_ishl O (xx_dt dd_X14_areStations 9 rfl) ?_
    refine sw_icmp_ge (tgt := 23) O (xx_dt dd_X14_areStations 10 rfl) (by decide) (fun q2 => ?_) (fun q2 => ?_)
    · refine sw_iconst (x := 0) O (xx_dt dd_X14_areStations 13 rfl) (by decide) ?_
      exact sw_iret O (xx_dt dd_X14_areStations 14 rfl) rfl rfl (by rw [hQ]; exact ⟨by unfold f_MareStations; simp only [if_neg q1, if_pos q2], rfl⟩)
    · refine sw_iconst (x := 1) O (xx_dt dd_X14_areStations 11 rfl) (by decide) ?_
      refine sw_goto (tgt := 24) O (xx_dt dd_X14_areStations 12 rfl) (by decide) ?_
      exact sw_iret O (xx_dt dd_X14_areStations 14 rfl) rfl rfl (by rw [hQ]; exact ⟨by unfold f_MareStations; simp only [if_neg q1, if_neg q2], rfl⟩)
theorem ct_X14_areStations {l : Launch} {h : XH} (hl : l.stackTraces = false) {z : Int64} {σ : XS9} (hbs : xx_bs h) {C : Nat} (hS : σ 5004 900 = nI (2 * C)) (hC10 : C ≤ 10) {x : Int32} : XEx l m_X14_areStations 1 0 0 [.ref 5000, .int x] (setM z σ h) (some (.int (bZ (n_lt x (2 ^ C))))) (setM z σ h) := by
  have e : f_MareStations σ x C = bZ (n_lt x (2 ^ C)) := by
    rw [← bZ_congr (nB_lt (by omega))]
    unfold f_MareStations bZ
    by_cases a : x < 0
    · simp [a]
    · by_cases b : x < (1 : Int32) <<< (nI C &&& 31) <;> simp [a, b]
  rw [← e]
  exact ct_areStations0 hl hbs hS hC10
def f_MareBidders (σ : XS9) (x : Int32) (B : Nat) : Int32 := (if x < 0 then 0 else (if (1 <<< ((nI B) &&& 31)) ≤ x then 0 else 1))
theorem ct_areBidders0 {l : Launch} {h : XH} (hl : l.stackTraces = false) {z : Int64} {σ : XS9} (hbs : xx_bs h) {B : Nat} (hB : σ 5002 900 = nI B) (hB6 : B ≤ 6) {x : Int32} : XEx l m_X14_areBidders 1 0 0 [.ref 5000, .int x] (setM z σ h) (some (.int (f_MareBidders σ x B))) (setM z σ h) := by
  refine XMet.of hl rfl rfl (Nat.le_of_ble_eq_true rfl) (fun Y O hh hQ => ?_)
  show SW Y 0 0 (setM z σ h) 0 [.ref 5000, .int x] []
  refine sw_iload_n O (xx_dt dd_X14_areBidders 0 rfl) rfl ?_
  refine sw_if_lt (tgt := 21) O (xx_dt dd_X14_areBidders 1 rfl) (by decide) (fun q1 => ?_) (fun q1 => ?_)
  · refine sw_iconst (x := 0) O (xx_dt dd_X14_areBidders 11 rfl) (by decide) ?_
    exact sw_iret O (xx_dt dd_X14_areBidders 12 rfl) rfl rfl (by rw [hQ]; exact ⟨by unfold f_MareBidders; simp only [if_pos q1], rfl⟩)
  · refine sw_iload_n O (xx_dt dd_X14_areBidders 2 rfl) rfl ?_
    refine sw_iconst (x := 1) O (xx_dt dd_X14_areBidders 3 rfl) (by decide) ?_
    refine sw_aload_n O (xx_dt dd_X14_areBidders 4 rfl) rfl ?_
    refine sw_get (v := .ref 5002) O (xx_dt dd_X14_areBidders 5 rfl) cl_X14 fl_X14_27 (lm_mod (σ := σ)) (by decide) rfl ?_
    refine sw_callVL (ci := 6) (as := []) (st := [.int 1, .int x]) (st2 := [.int (nI B), .int 1, .int x]) O (ct_AL_size hl (lm_5002 (σ := σ) (B := B) hB (by omega))) ce_Jx4a65c_size_8abf5 ml_X14_57 iv_Jx4a65c_size_8abf5 cl_Jx4a65c rfl (lm_5002 (σ := σ) (B := B) hB (by omega)) (xx_dt dd_X14_areBidders 6 rfl) (by decide) rfl rfl (Nat.le_of_ble_eq_true rfl) rfl ?_
    refine sw_ishl O (xx_dt dd_X14_areBidders 7 rfl) ?_
    refine sw_icmp_ge (tgt := 21) O (xx_dt dd_X14_areBidders 8 rfl) (by decide) (fun q2 => ?_) (fun q2 => ?_)
    · refine sw_iconst (x := 0) O (xx_dt dd_X14_areBidders 11 rfl) (by decide) ?_
      exact sw_iret O (xx_dt dd_X14_areBidders 12 rfl) rfl rfl (by rw [hQ]; exact ⟨by unfold f_MareBidders; simp only [if_neg q1, if_pos q2], rfl⟩)
    · refine sw_iconst (x := 1) O (xx_dt dd_X14_areBidders 9 rfl) (by decide) ?_
      refine sw_goto (tgt := 22) O (xx_dt dd_X14_areBidders 10 rfl) (by decide) ?_
      exact sw_iret O (xx_dt dd_X14_areBidders 12 rfl) rfl rfl (by rw [hQ]; exact ⟨by unfold f_MareBidders; simp only [if_neg q1, if_neg q2], rfl⟩)
theorem ct_X14_areBidders {l : Launch} {h : XH} (hl : l.stackTraces = false) {z : Int64} {σ : XS9} (hbs : xx_bs h) {B : Nat} (hB : σ 5002 900 = nI B) (hB6 : B ≤ 6) {x : Int32} : XEx l m_X14_areBidders 1 0 0 [.ref 5000, .int x] (setM z σ h) (some (.int (bZ (n_lt x (2 ^ B))))) (setM z σ h) := by
  have e : f_MareBidders σ x B = bZ (n_lt x (2 ^ B)) := by
    rw [← bZ_congr (nB_lt (by omega))]
    unfold f_MareBidders bZ
    by_cases a : x < 0
    · simp [a]
    · by_cases b : x < (1 : Int32) <<< (nI B &&& 31) <;> simp [a, b]
  rw [← e]
  exact ct_areBidders0 hl hbs hB hB6
def x_McanWish_45 (σ : XS9) (i r : Nat) (y : Int32) (R B g : Nat) (s0 : Int32) : Int32 := xit (fun i45 s45 => (if (nI i45) = (nI i) then s45 + 0 else (if (σ (5020 + i) 3) ≤ 0 then s45 + 0 else (if (σ (5020 + i45) 3) = (σ (5020 + i) 3) then s45 + (f_of (σ (7000 + 500 + g) i45) r) else s45 + 0)))) B 0 s0
def f_McanWish (σ : XS9) (i r : Nat) (y : Int32) (R B g : Nat) : Int32 := (if (f_of (σ (7000 + 500 + g) i) r) < y then (if (σ (5010 + r) 0) < y then 0 else (if (σ 5000 2) < (x_McanWish_45 σ i r y R B g y) then 0 else (if (σ (7000 + 3) i) < (f_Mpoints σ (f_with (σ (7000 + 500 + g) i) r y) R) then 0 else 1))) else 1)
theorem ct_X14_canWish {l : Launch} {h : XH} (hl : l.stackTraces = false) {z : Int64} {σ : XS9} (hbs : xx_bs h) {R : Nat} (hR : σ 5001 900 = nI R) (hR5 : R ≤ 5) {B : Nat} (hB : σ 5002 900 = nI B) (hB6 : B ≤ 6) (hf : σ 7000 20 = nI 1) (hf5 : σ 7000 25 = nI 1) {g : Nat} (hg : σ 7000 23 = nI g) (hg1 : g < 200) {w : Nat} (hw : σ 7000 24 = nI w) (hw1 : w < 200) {i r : Nat} {y : Int32} (hi : i < B) (hr : r < R) : XEx l m_X14_canWish 4 0 0 [.ref 5000, .int (nI i), .int (nI r), .int y] (setM z σ h) (some (.int (f_McanWish σ i r y R B g))) (setM z σ h) := by
  refine XMet.of hl rfl rfl (Nat.le_of_ble_eq_true rfl) (fun Y O hh hQ => ?_)
  show SW Y 0 0 (setM z σ h) 0 [.ref 5000, .int (nI i), .int (nI r), .int y, xx_d, xx_d, xx_d, xx_d] []
  refine sw_aload_n O (xx_dt dd_X14_canWish 0 rfl) rfl ?_
  refine sw_get (v := .ref 7000) O (xx_dt dd_X14_canWish 1 rfl) cl_X14 fl_X14_141 (lm_modC (σ := σ) (fl1 hf5)) (by decide) rfl ?_
  refine sw_get (v := .ref (7000 + 500 + g)) O (xx_dt dd_X14_canWish 2 rfl) cl_X11 fl_X14_145 (lm_clk (σ := σ) (b := 7000) (.inl rfl) (fl1 hf) (g := g) hg (by omega) (w := w) hw (by omega)) (by decide) rfl ?_
  refine sw_iload_n O (xx_dt dd_X14_canWish 3 rfl) rfl ?_
  refine sw_iaload (v := .int (σ (7000 + 500 + g) i)) O (xx_dt dd_X14_canWish 4 rfl) ((im_wsh (z := z) (σ := σ) (b := 7000) (.inl rfl) hf (g := g) hg (by omega) (j := g) (by omega)).get _) (pk_in i _ (by omega)) (by rw [nI_clamp (by omega)]; try exact rfl) ?_
  refine sw_istore (ls2 := [.ref 5000, .int (nI i), .int (nI r), .int y, .int (σ (7000 + 500 + g) i), xx_d, xx_d, xx_d]) O (xx_dt dd_X14_canWish 5 rfl) (by decide) rfl ?_
  refine sw_iload_n O (xx_dt dd_X14_canWish 6 rfl) rfl ?_
  refine sw_iload O (xx_dt dd_X14_canWish 7 rfl) rfl ?_
  refine sw_iload_n O (xx_dt dd_X14_canWish 8 rfl) rfl ?_
  refine sw_callSx (as := [.int (σ (7000 + 500 + g) i), .int (nI r)]) (st := [.int y]) (st2 := [.int (f_of (σ (7000 + 500 + g) i) r), .int y]) O (ct_X14_of hl (c := σ (7000 + 500 + g) i) (r := r) (by omega)) ce_X14_of ml_X14_53 st_X14_of (xx_dt dd_X14_canWish 9 rfl) (by decide) rfl rfl (Nat.le_of_ble_eq_true rfl) rfl ?_
  refine sw_icmp_gt (tgt := 23) O (xx_dt dd_X14_canWish 10 rfl) (by decide) (fun q1 => ?_) (fun q1 => ?_)
  · refine sw_aload_n O (xx_dt dd_X14_canWish 13 rfl) rfl ?_
    refine sw_get (v := .ref 5002) O (xx_dt dd_X14_canWish 14 rfl) cl_X14 fl_X14_27 (lm_modC (σ := σ) (fl1 hf5)) (by decide) rfl ?_
    refine sw_iload_n O (xx_dt dd_X14_canWish 15 rfl) rfl ?_
    refine sw_callVL (ci := 6) (as := [.int (nI i)]) (st := []) (st2 := [.ref (5020 + i)]) O (ct_get hl hbs (lm_5002 (σ := σ) (B := B) hB (by omega)) (by omega) (i := i) (x := 5020 + i) (by omega) (by omega) rfl) ce_Jx4a65c_get_915e3 ml_X14_61 iv_Jx4a65c_get_915e3 cl_Jx4a65c rfl (lm_5002 (σ := σ) (B := B) hB (by omega)) (xx_dt dd_X14_canWish 16 rfl) (by decide) rfl rfl (Nat.le_of_ble_eq_true rfl) rfl ?_
    refine sw_castO O (xx_dt dd_X14_canWish 17 rfl) cl_X9 (lm_bid (σ := σ) (B := B) hB (by omega) (j := i) (by omega)) cw_X14_118 ?_
    refine sw_get (v := .int (σ (5020 + i) 3)) O (xx_dt dd_X14_canWish 18 rfl) cl_X9 fl_X14_130 (lm_bid (σ := σ) (B := B) hB (by omega) (j := i) (by omega)) (by decide) rfl ?_
    refine sw_istore (ls2 := [.ref 5000, .int (nI i), .int (nI r), .int y, .int (σ (7000 + 500 + g) i), .int (σ (5020 + i) 3), xx_d, xx_d]) O (xx_dt dd_X14_canWish 19 rfl) (by decide) rfl ?_
    refine sw_iload_n O (xx_dt dd_X14_canWish 20 rfl) rfl ?_
    refine sw_istore (ls2 := [.ref 5000, .int (nI i), .int (nI r), .int y, .int (σ (7000 + 500 + g) i), .int (σ (5020 + i) 3), .int y, xx_d]) O (xx_dt dd_X14_canWish 21 rfl) (by decide) rfl ?_
    refine sw_iconst (x := 0) O (xx_dt dd_X14_canWish 22 rfl) (by decide) ?_
    refine sw_istore (ls2 := [.ref 5000, .int (nI i), .int (nI r), .int y, .int (σ (7000 + 500 + g) i), .int (σ (5020 + i) 3), .int y, .int 0]) O (xx_dt dd_X14_canWish 23 rfl) (by decide) rfl ?_
    refine sw_for (S := Int32) (fun i45 s45 => (if (nI i45) = (nI i) then s45 + 0 else (if (σ (5020 + i) 3) ≤ 0 then s45 + 0 else (if (σ (5020 + i45) 3) = (σ (5020 + i) 3) then s45 + (f_of (σ (7000 + 500 + g) i45) r) else s45 + 0)))) (fun _ _ => True) (hp := fun _ => setM z σ h) (hd := 45) (lc := fun i45 s45 => [.ref 5000, .int (nI i), .int (nI r), .int y, .int (σ (7000 + 500 + g) i), .int (σ (5020 + i) 3), .int s45, .int (nI i45)]) (N := B) (fun i45 s45 hi45 hP45 => ⟨trivial, fun kk45 => ?_⟩) B 0 y (by omega) (trivial) (fun hP45 => ?_)
    · refine sw_iload O (xx_dt dd_X14_canWish 24 rfl) rfl ?_
      refine sw_aload_n O (xx_dt dd_X14_canWish 25 rfl) rfl ?_
      refine sw_get (v := .ref 5002) O (xx_dt dd_X14_canWish 26 rfl) cl_X14 fl_X14_27 (lm_modC (σ := σ) (fl1 hf5)) (by decide) rfl ?_
      refine sw_callVL (ci := 6) (as := []) (st := [.int (nI i45)]) (st2 := [.int (nI B), .int (nI i45)]) O (ct_AL_size hl (lm_5002 (σ := σ) (B := B) hB (by omega))) ce_Jx4a65c_size_8abf5 ml_X14_57 iv_Jx4a65c_size_8abf5 cl_Jx4a65c rfl (lm_5002 (σ := σ) (B := B) hB (by omega)) (xx_dt dd_X14_canWish 27 rfl) (by decide) rfl rfl (Nat.le_of_ble_eq_true rfl) rfl ?_
      refine sw_icmp_ge (tgt := 117) O (xx_dt dd_X14_canWish 28 rfl) (by decide) (fun q2 => ?_) (fun q2 => ?_)
      · exact absurd q2 (nI_ge (b := B) hi45 (by omega))
      · refine sw_iload O (xx_dt dd_X14_canWish 29 rfl) rfl ?_
        refine sw_iload O (xx_dt dd_X14_canWish 30 rfl) rfl ?_
        refine sw_iload_n O (xx_dt dd_X14_canWish 31 rfl) rfl ?_
        refine sw_icmp_eq (tgt := 107) O (xx_dt dd_X14_canWish 32 rfl) (by decide) (fun q3 => ?_) (fun q3 => ?_)
        · refine sw_iconst (x := 0) O (xx_dt dd_X14_canWish 51 rfl) (by decide) ?_
          refine sw_iadd O (xx_dt dd_X14_canWish 52 rfl) ?_
          refine sw_istore (ls2 := [.ref 5000, .int (nI i), .int (nI r), .int y, .int (σ (7000 + 500 + g) i), .int (σ (5020 + i) 3), .int (s45 + 0), .int (nI i45)]) O (xx_dt dd_X14_canWish 53 rfl) (by decide) rfl ?_
          refine sw_iinc (y := nI (i45 + 1)) (ls2 := [.ref 5000, .int (nI i), .int (nI r), .int y, .int (σ (7000 + 500 + g) i), .int (σ (5020 + i) 3), .int (s45 + 0), .int (nI (i45 + 1))]) O (xx_dt dd_X14_canWish 54 rfl) rfl (nI_1 _) (by decide) rfl ?_
          refine sw_goto (tgt := 45) O (xx_dt dd_X14_canWish 55 rfl) (by decide) ?_
          simp only [if_pos q3] at kk45
          exact kk45
        · refine sw_iload O (xx_dt dd_X14_canWish 33 rfl) rfl ?_
          refine sw_if_le (tgt := 107) O (xx_dt dd_X14_canWish 34 rfl) (by decide) (fun q4 => ?_) (fun q4 => ?_)
          · refine sw_iconst (x := 0) O (xx_dt dd_X14_canWish 51 rfl) (by decide) ?_
            refine sw_iadd O (xx_dt dd_X14_canWish 52 rfl) ?_
            refine sw_istore (ls2 := [.ref 5000, .int (nI i), .int (nI r), .int y, .int (σ (7000 + 500 + g) i), .int (σ (5020 + i) 3), .int (s45 + 0), .int (nI i45)]) O (xx_dt dd_X14_canWish 53 rfl) (by decide) rfl ?_
            refine sw_iinc (y := nI (i45 + 1)) (ls2 := [.ref 5000, .int (nI i), .int (nI r), .int y, .int (σ (7000 + 500 + g) i), .int (σ (5020 + i) 3), .int (s45 + 0), .int (nI (i45 + 1))]) O (xx_dt dd_X14_canWish 54 rfl) rfl (nI_1 _) (by decide) rfl ?_
            refine sw_goto (tgt := 45) O (xx_dt dd_X14_canWish 55 rfl) (by decide) ?_
            simp only [if_neg q3, if_pos q4] at kk45
            exact kk45
          · refine sw_aload_n O (xx_dt dd_X14_canWish 35 rfl) rfl ?_
            refine sw_get (v := .ref 5002) O (xx_dt dd_X14_canWish 36 rfl) cl_X14 fl_X14_27 (lm_modC (σ := σ) (fl1 hf5)) (by decide) rfl ?_
            refine sw_iload O (xx_dt dd_X14_canWish 37 rfl) rfl ?_
            refine sw_callVL (ci := 6) (as := [.int (nI i45)]) (st := [.int s45]) (st2 := [.ref (5020 + i45), .int s45]) O (ct_get hl hbs (lm_5002 (σ := σ) (B := B) hB (by omega)) (by omega) (i := i45) (x := 5020 + i45) (by omega) (by omega) rfl) ce_Jx4a65c_get_915e3 ml_X14_61 iv_Jx4a65c_get_915e3 cl_Jx4a65c rfl (lm_5002 (σ := σ) (B := B) hB (by omega)) (xx_dt dd_X14_canWish 38 rfl) (by decide) rfl rfl (Nat.le_of_ble_eq_true rfl) rfl ?_
            refine sw_castO O (xx_dt dd_X14_canWish 39 rfl) cl_X9 (lm_bid (σ := σ) (B := B) hB (by omega) (j := i45) (by omega)) cw_X14_118 ?_
            refine sw_get (v := .int (σ (5020 + i45) 3)) O (xx_dt dd_X14_canWish 40 rfl) cl_X9 fl_X14_130 (lm_bid (σ := σ) (B := B) hB (by omega) (j := i45) (by omega)) (by decide) rfl ?_
            refine sw_iload O (xx_dt dd_X14_canWish 41 rfl) rfl ?_
            refine sw_icmp_ne (tgt := 107) O (xx_dt dd_X14_canWish 42 rfl) (by decide) (fun q5 => ?_) (fun q5 => ?_)
            · refine sw_iconst (x := 0) O (xx_dt dd_X14_canWish 51 rfl) (by decide) ?_
              refine sw_iadd O (xx_dt dd_X14_canWish 52 rfl) ?_
              refine sw_istore (ls2 := [.ref 5000, .int (nI i), .int (nI r), .int y, .int (σ (7000 + 500 + g) i), .int (σ (5020 + i) 3), .int (s45 + 0), .int (nI i45)]) O (xx_dt dd_X14_canWish 53 rfl) (by decide) rfl ?_
              refine sw_iinc (y := nI (i45 + 1)) (ls2 := [.ref 5000, .int (nI i), .int (nI r), .int y, .int (σ (7000 + 500 + g) i), .int (σ (5020 + i) 3), .int (s45 + 0), .int (nI (i45 + 1))]) O (xx_dt dd_X14_canWish 54 rfl) rfl (nI_1 _) (by decide) rfl ?_
              refine sw_goto (tgt := 45) O (xx_dt dd_X14_canWish 55 rfl) (by decide) ?_
              simp only [if_neg q3, if_neg q4, if_neg q5] at kk45
              exact kk45
            · refine sw_aload_n O (xx_dt dd_X14_canWish 43 rfl) rfl ?_
              refine sw_get (v := .ref 7000) O (xx_dt dd_X14_canWish 44 rfl) cl_X14 fl_X14_141 (lm_modC (σ := σ) (fl1 hf5)) (by decide) rfl ?_
              refine sw_get (v := .ref (7000 + 500 + g)) O (xx_dt dd_X14_canWish 45 rfl) cl_X11 fl_X14_145 (lm_clk (σ := σ) (b := 7000) (.inl rfl) (fl1 hf) (g := g) hg (by omega) (w := w) hw (by omega)) (by decide) rfl ?_
              refine sw_iload O (xx_dt dd_X14_canWish 46 rfl) rfl ?_
              refine sw_iaload (v := .int (σ (7000 + 500 + g) i45)) O (xx_dt dd_X14_canWish 47 rfl) ((im_wsh (z := z) (σ := σ) (b := 7000) (.inl rfl) hf (g := g) hg (by omega) (j := g) (by omega)).get _) (pk_in i45 _ (by omega)) (by rw [nI_clamp (by omega)]; try exact rfl) ?_
              refine sw_iload_n O (xx_dt dd_X14_canWish 48 rfl) rfl ?_
              refine sw_callSx (as := [.int (σ (7000 + 500 + g) i45), .int (nI r)]) (st := [.int s45]) (st2 := [.int (f_of (σ (7000 + 500 + g) i45) r), .int s45]) O (ct_X14_of hl (c := σ (7000 + 500 + g) i45) (r := r) (by omega)) ce_X14_of ml_X14_53 st_X14_of (xx_dt dd_X14_canWish 49 rfl) (by decide) rfl rfl (Nat.le_of_ble_eq_true rfl) rfl ?_
              refine sw_goto (tgt := 108) O (xx_dt dd_X14_canWish 50 rfl) (by decide) ?_
              refine sw_iadd O (xx_dt dd_X14_canWish 52 rfl) ?_
              refine sw_istore (ls2 := [.ref 5000, .int (nI i), .int (nI r), .int y, .int (σ (7000 + 500 + g) i), .int (σ (5020 + i) 3), .int (s45 + (f_of (σ (7000 + 500 + g) i45) r)), .int (nI i45)]) O (xx_dt dd_X14_canWish 53 rfl) (by decide) rfl ?_
              refine sw_iinc (y := nI (i45 + 1)) (ls2 := [.ref 5000, .int (nI i), .int (nI r), .int y, .int (σ (7000 + 500 + g) i), .int (σ (5020 + i) 3), .int (s45 + (f_of (σ (7000 + 500 + g) i45) r)), .int (nI (i45 + 1))]) O (xx_dt dd_X14_canWish 54 rfl) rfl (nI_1 _) (by decide) rfl ?_
              refine sw_goto (tgt := 45) O (xx_dt dd_X14_canWish 55 rfl) (by decide) ?_
              simp only [if_neg q3, if_neg q4, if_pos q5] at kk45
              exact kk45
    · show SW Y _ _ (setM z σ h) 45 [.ref 5000, .int (nI i), .int (nI r), .int y, .int (σ (7000 + 500 + g) i), .int (σ (5020 + i) 3), .int (x_McanWish_45 σ i r y R B g y), .int (nI B)] []
      refine sw_iload O (xx_dt dd_X14_canWish 24 rfl) rfl ?_
      refine sw_aload_n O (xx_dt dd_X14_canWish 25 rfl) rfl ?_
      refine sw_get (v := .ref 5002) O (xx_dt dd_X14_canWish 26 rfl) cl_X14 fl_X14_27 (lm_modC (σ := σ) (fl1 hf5)) (by decide) rfl ?_
      refine sw_callVL (ci := 6) (as := []) (st := [.int (nI B)]) (st2 := [.int (nI B), .int (nI B)]) O (ct_AL_size hl (lm_5002 (σ := σ) (B := B) hB (by omega))) ce_Jx4a65c_size_8abf5 ml_X14_57 iv_Jx4a65c_size_8abf5 cl_Jx4a65c rfl (lm_5002 (σ := σ) (B := B) hB (by omega)) (xx_dt dd_X14_canWish 27 rfl) (by decide) rfl rfl (Nat.le_of_ble_eq_true rfl) rfl ?_
      refine sw_icmp_ge (tgt := 117) O (xx_dt dd_X14_canWish 28 rfl) (by decide) (fun q2 => ?_) (fun q2 => ?_)
      · refine sw_iload_n O (xx_dt dd_X14_canWish 56 rfl) rfl ?_
        refine sw_aload_n O (xx_dt dd_X14_canWish 57 rfl) rfl ?_
        refine sw_get (v := .ref 5001) O (xx_dt dd_X14_canWish 58 rfl) cl_X14 fl_X14_23 (lm_modC (σ := σ) (fl1 hf5)) (by decide) rfl ?_
        refine sw_iload_n O (xx_dt dd_X14_canWish 59 rfl) rfl ?_
        refine sw_callVL (ci := 6) (as := [.int (nI r)]) (st := [.int y]) (st2 := [.ref (5010 + r), .int y]) O (ct_get hl hbs (lm_5001 (σ := σ) (R := R) hR (by omega)) (by omega) (i := r) (x := 5010 + r) (by omega) (by omega) rfl) ce_Jx4a65c_get_915e3 ml_X14_61 iv_Jx4a65c_get_915e3 cl_Jx4a65c rfl (lm_5001 (σ := σ) (R := R) hR (by omega)) (xx_dt dd_X14_canWish 60 rfl) (by decide) rfl rfl (Nat.le_of_ble_eq_true rfl) rfl ?_
        refine sw_castO O (xx_dt dd_X14_canWish 61 rfl) cl_X12 (lm_reg (σ := σ) (R := R) hR (by omega) (j := r) (by omega)) cw_X14_65 ?_
        refine sw_get (v := .int (σ (5010 + r) 0)) O (xx_dt dd_X14_canWish 62 rfl) cl_X12 fl_X14_81 (lm_reg (σ := σ) (R := R) hR (by omega) (j := r) (by omega)) (by decide) rfl ?_
        refine sw_icmp_gt (tgt := 171) O (xx_dt dd_X14_canWish 63 rfl) (by decide) (fun q6 => ?_) (fun q6 => ?_)
        · refine sw_iconst (x := 0) O (xx_dt dd_X14_canWish 82 rfl) (by decide) ?_
          exact sw_iret O (xx_dt dd_X14_canWish 83 rfl) rfl rfl (by rw [hQ]; exact ⟨by unfold f_McanWish; simp only [if_pos q1, if_pos q6], rfl⟩)
        · refine sw_iload O (xx_dt dd_X14_canWish 64 rfl) rfl ?_
          refine sw_aload_n O (xx_dt dd_X14_canWish 65 rfl) rfl ?_
          refine sw_get (v := .int (σ 5000 2)) O (xx_dt dd_X14_canWish 66 rfl) cl_X14 fl_X14_7 (lm_modC (σ := σ) (fl1 hf5)) (by decide) rfl ?_
          refine sw_icmp_gt (tgt := 171) O (xx_dt dd_X14_canWish 67 rfl) (by decide) (fun q7 => ?_) (fun q7 => ?_)
          · refine sw_iconst (x := 0) O (xx_dt dd_X14_canWish 82 rfl) (by decide) ?_
            exact sw_iret O (xx_dt dd_X14_canWish 83 rfl) rfl rfl (by rw [hQ]; exact ⟨by unfold f_McanWish; simp only [if_pos q1, if_neg q6, if_pos q7], rfl⟩)
          · refine sw_aload_n O (xx_dt dd_X14_canWish 68 rfl) rfl ?_
            refine sw_iload O (xx_dt dd_X14_canWish 69 rfl) rfl ?_
            refine sw_iload_n O (xx_dt dd_X14_canWish 70 rfl) rfl ?_
            refine sw_iload_n O (xx_dt dd_X14_canWish 71 rfl) rfl ?_
            refine sw_callSx (as := [.int (σ (7000 + 500 + g) i), .int (nI r), .int y]) (st := [.ref 5000]) (st2 := [.int (f_with (σ (7000 + 500 + g) i) r y), .ref 5000]) O (ct_X14_with hl (c := σ (7000 + 500 + g) i) (r := r) (m := y) (by omega)) ce_X14_with ml_X14_148 st_X14_with (xx_dt dd_X14_canWish 72 rfl) (by decide) rfl rfl (Nat.le_of_ble_eq_true rfl) rfl ?_
            refine sw_callVx (as := [.int (f_with (σ (7000 + 500 + g) i) r y)]) (st := []) (st2 := [.int (f_Mpoints σ (f_with (σ (7000 + 500 + g) i) r y) R)]) O (ct_X14_points hl (z := z) (σ := σ) hbs (R := R) hR (by omega) (c := f_with (σ (7000 + 500 + g) i) r y)) ce_X14_points ml_X14_152 iv_X14_points cl_X14 rfl (lm_modC (σ := σ) (fl1 hf5)) (xx_dt dd_X14_canWish 73 rfl) (by decide) rfl rfl (Nat.le_of_ble_eq_true rfl) rfl ?_
            refine sw_aload_n O (xx_dt dd_X14_canWish 74 rfl) rfl ?_
            refine sw_get (v := .ref 7000) O (xx_dt dd_X14_canWish 75 rfl) cl_X14 fl_X14_141 (lm_modC (σ := σ) (fl1 hf5)) (by decide) rfl ?_
            refine sw_get (v := .ref (7000 + 3)) O (xx_dt dd_X14_canWish 76 rfl) cl_X11 fl_X14_154 (lm_clk (σ := σ) (b := 7000) (.inl rfl) (fl1 hf) (g := g) hg (by omega) (w := w) hw (by omega)) (by decide) rfl ?_
            refine sw_iload_n O (xx_dt dd_X14_canWish 77 rfl) rfl ?_
            refine sw_iaload (v := .int (σ (7000 + 3) i)) O (xx_dt dd_X14_canWish 78 rfl) ((im_kel (z := z) (σ := σ) (b := 7000) (.inl rfl) hf).get _) (pk_in i _ (by omega)) (by rw [nI_clamp (by omega)]; try exact rfl) ?_
            refine sw_icmp_gt (tgt := 171) O (xx_dt dd_X14_canWish 79 rfl) (by decide) (fun q8 => ?_) (fun q8 => ?_)
            · refine sw_iconst (x := 0) O (xx_dt dd_X14_canWish 82 rfl) (by decide) ?_
              exact sw_iret O (xx_dt dd_X14_canWish 83 rfl) rfl rfl (by rw [hQ]; exact ⟨by unfold f_McanWish; simp only [if_pos q1, if_neg q6, if_neg q7, if_pos q8], rfl⟩)
            · refine sw_iconst (x := 1) O (xx_dt dd_X14_canWish 80 rfl) (by decide) ?_
              refine sw_goto (tgt := 172) O (xx_dt dd_X14_canWish 81 rfl) (by decide) ?_
              exact sw_iret O (xx_dt dd_X14_canWish 83 rfl) rfl rfl (by rw [hQ]; exact ⟨by unfold f_McanWish; simp only [if_pos q1, if_neg q6, if_neg q7, if_neg q8], rfl⟩)
      · exact absurd (Int32.le_refl _) q2
  · refine sw_iconst (x := 1) O (xx_dt dd_X14_canWish 11 rfl) (by decide) ?_
    exact sw_iret O (xx_dt dd_X14_canWish 12 rfl) rfl rfl (by rw [hQ]; exact ⟨by unfold f_McanWish; simp only [if_neg q1], rfl⟩)
def x_MwinnersKept_4 (σ : XS9) (B : Nat) (s0 : Int32) : Int32 := xit (fun i4 s4 => (if (σ 5005 i4) = (-1) then s4 + 0 else s4 + 1)) B 0 s0
def f_MwinnersKept (σ : XS9) (B : Nat) : Int32 := (x_MwinnersKept_4 σ B 0)
theorem ct_X14_winnersKept {l : Launch} {h : XH} (hl : l.stackTraces = false) {z : Int64} {σ : XS9} (hbs : xx_bs h) {B : Nat} (hB : σ 5002 900 = nI B) (hB6 : B ≤ 6)  : XEx l m_X14_winnersKept 1 0 0 [.ref 5000] (setM z σ h) (some (.int (f_MwinnersKept σ B))) (setM z σ h) := by
  refine XMet.of hl rfl rfl (Nat.le_of_ble_eq_true rfl) (fun Y O hh hQ => ?_)
  show SW Y 0 0 (setM z σ h) 0 [.ref 5000, xx_d, xx_d] []
  refine sw_iconst (x := 0) O (xx_dt dd_X14_winnersKept 0 rfl) (by decide) ?_
  refine sw_istore_n (ls2 := [.ref 5000, .int 0, xx_d]) O (xx_dt dd_X14_winnersKept 1 rfl) (by decide) rfl ?_
  refine sw_iconst (x := 0) O (xx_dt dd_X14_winnersKept 2 rfl) (by decide) ?_
  refine sw_istore_n (ls2 := [.ref 5000, .int 0, .int 0]) O (xx_dt dd_X14_winnersKept 3 rfl) (by decide) rfl ?_
  refine sw_for (S := Int32) (fun i4 s4 => (if (σ 5005 i4) = (-1) then s4 + 0 else s4 + 1)) (fun _ _ => True) (hp := fun _ => setM z σ h) (hd := 4) (lc := fun i4 s4 => [.ref 5000, .int s4, .int (nI i4)]) (N := B) (fun i4 s4 hi4 hP4 => ⟨trivial, fun kk4 => ?_⟩) B 0 0 (by omega) (trivial) (fun hP4 => ?_)
  · refine sw_iload_n O (xx_dt dd_X14_winnersKept 4 rfl) rfl ?_
    refine sw_aload_n O (xx_dt dd_X14_winnersKept 5 rfl) rfl ?_
    refine sw_get (v := .ref 5002) O (xx_dt dd_X14_winnersKept 6 rfl) cl_X14 fl_X14_27 (lm_mod (σ := σ)) (by decide) rfl ?_
    refine sw_callVL (ci := 6) (as := []) (st := [.int (nI i4)]) (st2 := [.int (nI B), .int (nI i4)]) O (ct_AL_size hl (lm_5002 (σ := σ) (B := B) hB (by omega))) ce_Jx4a65c_size_8abf5 ml_X14_57 iv_Jx4a65c_size_8abf5 cl_Jx4a65c rfl (lm_5002 (σ := σ) (B := B) hB (by omega)) (xx_dt dd_X14_winnersKept 7 rfl) (by decide) rfl rfl (Nat.le_of_ble_eq_true rfl) rfl ?_
    refine sw_icmp_ge (tgt := 39) O (xx_dt dd_X14_winnersKept 8 rfl) (by decide) (fun q1 => ?_) (fun q1 => ?_)
    · exact absurd q1 (nI_ge (b := B) hi4 (by omega))
    · refine sw_iload_n O (xx_dt dd_X14_winnersKept 9 rfl) rfl ?_
      refine sw_aload_n O (xx_dt dd_X14_winnersKept 10 rfl) rfl ?_
      refine sw_get (v := .ref 5005) O (xx_dt dd_X14_winnersKept 11 rfl) cl_X14 fl_X14_36 (lm_mod (σ := σ)) (by decide) rfl ?_
      refine sw_iload_n O (xx_dt dd_X14_winnersKept 12 rfl) rfl ?_
      refine sw_iaload (v := .int (σ 5005 i4)) O (xx_dt dd_X14_winnersKept 13 rfl) ((im_5005 (z := z) (σ := σ)).get _) (pk_in i4 _ (by omega)) (by rw [nI_clamp (by omega)]; try exact rfl) ?_
      refine sw_iconst (x := (-1)) O (xx_dt dd_X14_winnersKept 14 rfl) (by decide) ?_
      refine sw_icmp_ne (tgt := 30) O (xx_dt dd_X14_winnersKept 15 rfl) (by decide) (fun q2 => ?_) (fun q2 => ?_)
      · refine sw_iconst (x := 1) O (xx_dt dd_X14_winnersKept 18 rfl) (by decide) ?_
        refine sw_iadd O (xx_dt dd_X14_winnersKept 19 rfl) ?_
        refine sw_istore_n (ls2 := [.ref 5000, .int (s4 + 1), .int (nI i4)]) O (xx_dt dd_X14_winnersKept 20 rfl) (by decide) rfl ?_
        refine sw_iinc (y := nI (i4 + 1)) (ls2 := [.ref 5000, .int (s4 + 1), .int (nI (i4 + 1))]) O (xx_dt dd_X14_winnersKept 21 rfl) rfl (nI_1 _) (by decide) rfl ?_
        refine sw_goto (tgt := 4) O (xx_dt dd_X14_winnersKept 22 rfl) (by decide) ?_
        simp only [if_neg q2] at kk4
        exact kk4
      · refine sw_iconst (x := 0) O (xx_dt dd_X14_winnersKept 16 rfl) (by decide) ?_
        refine sw_goto (tgt := 31) O (xx_dt dd_X14_winnersKept 17 rfl) (by decide) ?_
        refine sw_iadd O (xx_dt dd_X14_winnersKept 19 rfl) ?_
        refine sw_istore_n (ls2 := [.ref 5000, .int (s4 + 0), .int (nI i4)]) O (xx_dt dd_X14_winnersKept 20 rfl) (by decide) rfl ?_
        refine sw_iinc (y := nI (i4 + 1)) (ls2 := [.ref 5000, .int (s4 + 0), .int (nI (i4 + 1))]) O (xx_dt dd_X14_winnersKept 21 rfl) rfl (nI_1 _) (by decide) rfl ?_
        refine sw_goto (tgt := 4) O (xx_dt dd_X14_winnersKept 22 rfl) (by decide) ?_
        simp only [if_pos q2] at kk4
        exact kk4
  · show SW Y _ _ (setM z σ h) 4 [.ref 5000, .int (x_MwinnersKept_4 σ B 0), .int (nI B)] []
    refine sw_iload_n O (xx_dt dd_X14_winnersKept 4 rfl) rfl ?_
    refine sw_aload_n O (xx_dt dd_X14_winnersKept 5 rfl) rfl ?_
    refine sw_get (v := .ref 5002) O (xx_dt dd_X14_winnersKept 6 rfl) cl_X14 fl_X14_27 (lm_mod (σ := σ)) (by decide) rfl ?_
    refine sw_callVL (ci := 6) (as := []) (st := [.int (nI B)]) (st2 := [.int (nI B), .int (nI B)]) O (ct_AL_size hl (lm_5002 (σ := σ) (B := B) hB (by omega))) ce_Jx4a65c_size_8abf5 ml_X14_57 iv_Jx4a65c_size_8abf5 cl_Jx4a65c rfl (lm_5002 (σ := σ) (B := B) hB (by omega)) (xx_dt dd_X14_winnersKept 7 rfl) (by decide) rfl rfl (Nat.le_of_ble_eq_true rfl) rfl ?_
    refine sw_icmp_ge (tgt := 39) O (xx_dt dd_X14_winnersKept 8 rfl) (by decide) (fun q1 => ?_) (fun q1 => ?_)
    · refine sw_iload_n O (xx_dt dd_X14_winnersKept 23 rfl) rfl ?_
      exact sw_iret O (xx_dt dd_X14_winnersKept 24 rfl) rfl rfl (by rw [hQ]; exact ⟨by unfold f_MwinnersKept; rfl, rfl⟩)
    · exact absurd (Int32.le_refl _) q1
theorem kept_nat {x : Int32} {p : Nat} (h : x = -1 ∨ ∃ n, n < p ∧ x = nI n) (hx : ¬ x = -1) (hp : p < 1000) : n_lt x p := by
  rcases h with h | ⟨n, h1, h2⟩
  · exact absurd h hx
  · exact ⟨by rw [h2, cn_nI (by omega)], by rw [h2, cn_nI (by omega)]; exact h1⟩
theorem mod6 {a : Nat} (ha : a < 1000) : nI a - nI a / 6 * 6 = nI (a % 6) := by
  have h1 : (nI a / 6).toInt = ((a / 6 : Nat) : Int) := by
    rw [Int32.toInt_div, toI_nI (by omega)]
    have : (6 : Int32).toInt = 6 := rfl
    rw [this, Int.tdiv_eq_ediv_of_nonneg (by omega), Int.bmod_def]
    omega
  apply i_ext
  rw [Int32.toInt_sub, Int32.toInt_mul, h1, toI_nI (by omega), toI_nI (by omega)]
  have : (6 : Int32).toInt = 6 := rfl
  rw [this, Int.bmod_def, Int.bmod_def]
  omega
theorem nI_add' {a b : Nat} : nI a + nI b = nI (a + b) := by
  unfold nI
  rw [← Int32.ofNat_add]
def x_Mholds_6 (σ : XS9) (r : Nat) (y : Int32) (tn B : Nat) (s0 : Int32) : Int32 ⊕ Int32 := xitR (fun i6 s6 => (if (nI B) ≤ (nI ((i6 + tn) % 6)) then (if 0 ≤ s6 then .inl (s6 - 0) else .inr (nI ((i6 + tn) % 6))) else (if (σ 5005 ((i6 + tn) % 6)) = (-1) then (if 0 ≤ s6 then .inl (s6 - 0) else .inr (nI ((i6 + tn) % 6))) else (if (f_of (f_Bcode σ ((i6 + tn) % 6) (cn (σ 5005 ((i6 + tn) % 6)))) r) ≤ s6 then .inl (s6 - (f_of (f_Bcode σ ((i6 + tn) % 6) (cn (σ 5005 ((i6 + tn) % 6)))) r)) else .inr (nI ((i6 + tn) % 6)))))) 6 0 s0
def f_Mholds (σ : XS9) (r : Nat) (y : Int32) (tn B : Nat) : Int32 := (match (x_Mholds_6 σ r y tn B y) with | .inl s6 => (-1) | .inr r6 => r6)
theorem ct_X14_holds {l : Launch} {h : XH} (hl : l.stackTraces = false) {z : Int64} {σ : XS9} (hbs : xx_bs h) {R : Nat} (hR : σ 5001 900 = nI R) (hR5 : R ≤ 5) {B : Nat} (hB : σ 5002 900 = nI B) (hB6 : B ≤ 6) {pk : Nat → Nat} (hpk : ∀ j, j < B → σ (5030 + j) 900 = nI (2 * pk j) ∧ pk j ≤ 6) (hkp : ∀ j, j < B → σ 5005 j = -1 ∨ ∃ n, n < pk j ∧ σ 5005 j = nI n) {r tn : Nat} {y : Int32} (hr : r < R) (htn : tn < 100) : XEx l m_X14_holds 5 0 0 [.ref 5000, .int (nI r), .int y, .int (nI tn)] (setM z σ h) (some (.int (f_Mholds σ r y tn B))) (setM z σ h) := by
  refine XMet.of hl rfl rfl (Nat.le_of_ble_eq_true rfl) (fun Y O hh hQ => ?_)
  show SW Y 0 0 (setM z σ h) 0 [.ref 5000, .int (nI r), .int y, .int (nI tn), xx_d, xx_d, xx_d, xx_d] []
  refine sw_iload_n O (xx_dt dd_X14_holds 0 rfl) rfl ?_
  refine sw_istore (ls2 := [.ref 5000, .int (nI r), .int y, .int (nI tn), .int y, xx_d, xx_d, xx_d]) O (xx_dt dd_X14_holds 1 rfl) (by decide) rfl ?_
  refine sw_iconst (x := 0) O (xx_dt dd_X14_holds 2 rfl) (by decide) ?_
  refine sw_istore (ls2 := [.ref 5000, .int (nI r), .int y, .int (nI tn), .int y, .int 0, xx_d, xx_d]) O (xx_dt dd_X14_holds 3 rfl) (by decide) rfl ?_
  refine sw_forR (S := Int32) (R := Int32) (fun i6 s6 => (if (nI B) ≤ (nI ((i6 + tn) % 6)) then (if 0 ≤ s6 then .inl (s6 - 0) else .inr (nI ((i6 + tn) % 6))) else (if (σ 5005 ((i6 + tn) % 6)) = (-1) then (if 0 ≤ s6 then .inl (s6 - 0) else .inr (nI ((i6 + tn) % 6))) else (if (f_of (f_Bcode σ ((i6 + tn) % 6) (cn (σ 5005 ((i6 + tn) % 6)))) r) ≤ s6 then .inl (s6 - (f_of (f_Bcode σ ((i6 + tn) % 6) (cn (σ 5005 ((i6 + tn) % 6)))) r)) else .inr (nI ((i6 + tn) % 6)))))) (fun _ _ => True) (FR := fun r9 => f_Mholds σ r y tn B = r9) (hp := fun _ => setM z σ h) (hd := 6) (lc := fun i6 s6 => [.ref 5000, .int (nI r), .int y, .int (nI tn), .int s6, .int (nI i6), xx_d, xx_d]) (N := 6) (fun i6 s6 hi6 hP6 => ⟨fun _ _ => trivial, fun kk6 kr6 => ?_⟩) 6 0 y (by omega) (trivial) (fun sN6 eN6 hP6 => ?_) (fun r6 eN6 => ?_)
  · refine sw_iload O (xx_dt dd_X14_holds 4 rfl) rfl ?_
    refine sw_bipush (x := 6) O (xx_dt dd_X14_holds 5 rfl) (by decide) ?_
    refine sw_icmp_ge (tgt := 100) O (xx_dt dd_X14_holds 6 rfl) (by decide) (fun q1 => ?_) (fun q1 => ?_)
    · exact absurd q1 (nI_ge (b := 6) hi6 (by omega))
    · refine sw_iload O (xx_dt dd_X14_holds 7 rfl) rfl ?_
      refine sw_iload_n O (xx_dt dd_X14_holds 8 rfl) rfl ?_
      refine sw_iadd O (xx_dt dd_X14_holds 9 rfl) ?_
      have hx16 := trivial
      rw [nI_add']
      refine sw_bipush (x := 6) O (xx_dt dd_X14_holds 10 rfl) (by decide) ?_
      refine sw_irem O (xx_dt dd_X14_holds 11 rfl) (by first | decide | assumption) ?_
      have hx19 := Nat.mod_lt (i6 + tn) (by decide : 6 > 0)
      rw [mod6 (by omega)]
      refine sw_istore (ls2 := [.ref 5000, .int (nI r), .int y, .int (nI tn), .int s6, .int (nI i6), .int (nI ((i6 + tn) % 6)), xx_d]) O (xx_dt dd_X14_holds 12 rfl) (by decide) rfl ?_
      refine sw_iload O (xx_dt dd_X14_holds 13 rfl) rfl ?_
      refine sw_aload_n O (xx_dt dd_X14_holds 14 rfl) rfl ?_
      refine sw_get (v := .ref 5002) O (xx_dt dd_X14_holds 15 rfl) cl_X14 fl_X14_27 (lm_mod (σ := σ)) (by decide) rfl ?_
      refine sw_callVL (ci := 6) (as := []) (st := [.int (nI ((i6 + tn) % 6))]) (st2 := [.int (nI B), .int (nI ((i6 + tn) % 6))]) O (ct_AL_size hl (lm_5002 (σ := σ) (B := B) hB (by omega))) ce_Jx4a65c_size_8abf5 ml_X14_57 iv_Jx4a65c_size_8abf5 cl_Jx4a65c rfl (lm_5002 (σ := σ) (B := B) hB (by omega)) (xx_dt dd_X14_holds 16 rfl) (by decide) rfl rfl (Nat.le_of_ble_eq_true rfl) rfl ?_
      refine sw_icmp_ge (tgt := 74) O (xx_dt dd_X14_holds 17 rfl) (by decide) (fun q2 => ?_) (fun q2 => ?_)
      · have hfq2 : B ≤ ((i6 + tn) % 6) := (nI_leI (a := B) (b := ((i6 + tn) % 6)) (by omega) (by omega)).mp q2
        refine sw_iconst (x := 0) O (xx_dt dd_X14_holds 37 rfl) (by decide) ?_
        refine sw_istore (ls2 := [.ref 5000, .int (nI r), .int y, .int (nI tn), .int s6, .int (nI i6), .int (nI ((i6 + tn) % 6)), .int 0]) O (xx_dt dd_X14_holds 38 rfl) (by decide) rfl ?_
        refine sw_iload O (xx_dt dd_X14_holds 39 rfl) rfl ?_
        refine sw_iload O (xx_dt dd_X14_holds 40 rfl) rfl ?_
        refine sw_icmp_ge (tgt := 87) O (xx_dt dd_X14_holds 41 rfl) (by decide) (fun q3 => ?_) (fun q3 => ?_)
        · refine sw_iload O (xx_dt dd_X14_holds 44 rfl) rfl ?_
          refine sw_iload O (xx_dt dd_X14_holds 45 rfl) rfl ?_
          refine sw_isub O (xx_dt dd_X14_holds 46 rfl) ?_
          refine sw_istore (ls2 := [.ref 5000, .int (nI r), .int y, .int (nI tn), .int (s6 - 0), .int (nI i6), .int (nI ((i6 + tn) % 6)), .int 0]) O (xx_dt dd_X14_holds 47 rfl) (by decide) rfl ?_
          refine sw_iinc (y := nI (i6 + 1)) (ls2 := [.ref 5000, .int (nI r), .int y, .int (nI tn), .int (s6 - 0), .int (nI (i6 + 1)), .int (nI ((i6 + tn) % 6)), .int 0]) O (xx_dt dd_X14_holds 48 rfl) rfl (nI_1 _) (by decide) rfl ?_
          refine sw_goto (tgt := 6) O (xx_dt dd_X14_holds 49 rfl) (by decide) ?_
          refine sw_dum (ls2 := [.ref 5000, .int (nI r), .int y, .int (nI tn), .int (s6 - 0), .int (nI (i6 + 1)), xx_d, xx_d]) ⟨.inr rfl, .inr rfl, .inr rfl, .inr rfl, .inr rfl, .inr rfl, .inl rfl, .inl rfl, trivial⟩ ?_
          exact kk6 (s6 - 0) (by simp only [if_pos q2, if_pos q3])
        · refine sw_iload O (xx_dt dd_X14_holds 42 rfl) rfl ?_
          exact sw_iret O (xx_dt dd_X14_holds 43 rfl) rfl rfl (by rw [hQ, kr6 (nI ((i6 + tn) % 6)) (by simp only [if_pos q2, if_neg q3])]; exact ⟨rfl, rfl⟩)
      · have hfq2 : ¬ B ≤ ((i6 + tn) % 6) := fun e => q2 ((nI_leI (a := B) (b := ((i6 + tn) % 6)) (by omega) (by omega)).mpr e)
        refine sw_aload_n O (xx_dt dd_X14_holds 18 rfl) rfl ?_
        refine sw_get (v := .ref 5005) O (xx_dt dd_X14_holds 19 rfl) cl_X14 fl_X14_36 (lm_mod (σ := σ)) (by decide) rfl ?_
        refine sw_iload O (xx_dt dd_X14_holds 20 rfl) rfl ?_
        refine sw_iaload (v := .int (σ 5005 ((i6 + tn) % 6))) O (xx_dt dd_X14_holds 21 rfl) ((im_5005 (z := z) (σ := σ)).get _) (pk_in ((i6 + tn) % 6) _ (by omega)) (by rw [nI_clamp (by omega)]; try exact rfl) ?_
        refine sw_iconst (x := (-1)) O (xx_dt dd_X14_holds 22 rfl) (by decide) ?_
        refine sw_icmp_eq (tgt := 74) O (xx_dt dd_X14_holds 23 rfl) (by decide) (fun q4 => ?_) (fun q4 => ?_)
        · refine sw_iconst (x := 0) O (xx_dt dd_X14_holds 37 rfl) (by decide) ?_
          refine sw_istore (ls2 := [.ref 5000, .int (nI r), .int y, .int (nI tn), .int s6, .int (nI i6), .int (nI ((i6 + tn) % 6)), .int 0]) O (xx_dt dd_X14_holds 38 rfl) (by decide) rfl ?_
          refine sw_iload O (xx_dt dd_X14_holds 39 rfl) rfl ?_
          refine sw_iload O (xx_dt dd_X14_holds 40 rfl) rfl ?_
          refine sw_icmp_ge (tgt := 87) O (xx_dt dd_X14_holds 41 rfl) (by decide) (fun q5 => ?_) (fun q5 => ?_)
          · refine sw_iload O (xx_dt dd_X14_holds 44 rfl) rfl ?_
            refine sw_iload O (xx_dt dd_X14_holds 45 rfl) rfl ?_
            refine sw_isub O (xx_dt dd_X14_holds 46 rfl) ?_
            refine sw_istore (ls2 := [.ref 5000, .int (nI r), .int y, .int (nI tn), .int (s6 - 0), .int (nI i6), .int (nI ((i6 + tn) % 6)), .int 0]) O (xx_dt dd_X14_holds 47 rfl) (by decide) rfl ?_
            refine sw_iinc (y := nI (i6 + 1)) (ls2 := [.ref 5000, .int (nI r), .int y, .int (nI tn), .int (s6 - 0), .int (nI (i6 + 1)), .int (nI ((i6 + tn) % 6)), .int 0]) O (xx_dt dd_X14_holds 48 rfl) rfl (nI_1 _) (by decide) rfl ?_
            refine sw_goto (tgt := 6) O (xx_dt dd_X14_holds 49 rfl) (by decide) ?_
            refine sw_dum (ls2 := [.ref 5000, .int (nI r), .int y, .int (nI tn), .int (s6 - 0), .int (nI (i6 + 1)), xx_d, xx_d]) ⟨.inr rfl, .inr rfl, .inr rfl, .inr rfl, .inr rfl, .inr rfl, .inl rfl, .inl rfl, trivial⟩ ?_
            exact kk6 (s6 - 0) (by simp only [if_neg q2, if_pos q4, if_pos q5])
          · refine sw_iload O (xx_dt dd_X14_holds 42 rfl) rfl ?_
            exact sw_iret O (xx_dt dd_X14_holds 43 rfl) rfl rfl (by rw [hQ, kr6 (nI ((i6 + tn) % 6)) (by simp only [if_neg q2, if_pos q4, if_neg q5])]; exact ⟨rfl, rfl⟩)
        · have hc42 := (kept_nat (hkp _ (by omega)) q4 (by have := (hpk ((i6 + tn) % 6) (by omega)).2; omega))
          have hd42 := hc42.2
          refine sw_aload_n O (xx_dt dd_X14_holds 24 rfl) rfl ?_
          refine sw_get (v := .ref 5002) O (xx_dt dd_X14_holds 25 rfl) cl_X14 fl_X14_27 (lm_mod (σ := σ)) (by decide) rfl ?_
          refine sw_iload O (xx_dt dd_X14_holds 26 rfl) rfl ?_
          refine sw_callVL (ci := 6) (as := [.int (nI ((i6 + tn) % 6))]) (st := []) (st2 := [.ref (5020 + (i6 + tn) % 6)]) O (ct_get hl hbs (lm_5002 (σ := σ) (B := B) hB (by omega)) (by omega) (i := (i6 + tn) % 6) (x := 5020 + (i6 + tn) % 6) (by omega) (by omega) rfl) ce_Jx4a65c_get_915e3 ml_X14_61 iv_Jx4a65c_get_915e3 cl_Jx4a65c rfl (lm_5002 (σ := σ) (B := B) hB (by omega)) (xx_dt dd_X14_holds 27 rfl) (by decide) rfl rfl (Nat.le_of_ble_eq_true rfl) rfl ?_
          refine sw_castO O (xx_dt dd_X14_holds 28 rfl) cl_X9 (lm_bid (σ := σ) (B := B) hB (by omega) (j := (i6 + tn) % 6) (by omega)) cw_X14_118 ?_
          refine sw_aload_n O (xx_dt dd_X14_holds 29 rfl) rfl ?_
          refine sw_get (v := .ref 5005) O (xx_dt dd_X14_holds 30 rfl) cl_X14 fl_X14_36 (lm_mod (σ := σ)) (by decide) rfl ?_
          refine sw_iload O (xx_dt dd_X14_holds 31 rfl) rfl ?_
          refine sw_iaload (v := .int (nI (cn (σ 5005 ((i6 + tn) % 6))))) O (xx_dt dd_X14_holds 32 rfl) ((im_5005 (z := z) (σ := σ)).get _) (pk_in ((i6 + tn) % 6) _ (by omega)) (by rw [nI_clamp (by omega)]; exact (congrArg Value.int hc42.1)) ?_
          refine sw_callVx (as := [.int (nI (cn (σ 5005 ((i6 + tn) % 6))))]) (st := []) (st2 := [.int (f_Bcode σ ((i6 + tn) % 6) (cn (σ 5005 ((i6 + tn) % 6))))]) O (ct_X9_code hl (z := z) (σ := σ) hbs (B := B) hB (by omega) (j := (i6 + tn) % 6) (by omega) (p := pk ((i6 + tn) % 6)) (hpk ((i6 + tn) % 6) (by omega)).1 (by have h9 := (hpk ((i6 + tn) % 6) (by omega)).2; omega) (k := cn (σ 5005 ((i6 + tn) % 6))) (by first | omega | (have h9 := (hpk ((i6 + tn) % 6) (by omega)).2; omega))) ce_X9_code ml_X14_240 iv_X9_code cl_X9 rfl (lm_bid (σ := σ) (B := B) hB (by omega) (j := (i6 + tn) % 6) (by omega)) (xx_dt dd_X14_holds 33 rfl) (by decide) rfl rfl (Nat.le_of_ble_eq_true rfl) rfl ?_
          refine sw_iload_n O (xx_dt dd_X14_holds 34 rfl) rfl ?_
          refine sw_callSx (as := [.int (f_Bcode σ ((i6 + tn) % 6) (cn (σ 5005 ((i6 + tn) % 6)))), .int (nI r)]) (st := []) (st2 := [.int (f_of (f_Bcode σ ((i6 + tn) % 6) (cn (σ 5005 ((i6 + tn) % 6)))) r)]) O (ct_X14_of hl (c := f_Bcode σ ((i6 + tn) % 6) (cn (σ 5005 ((i6 + tn) % 6)))) (r := r) (by omega)) ce_X14_of ml_X14_53 st_X14_of (xx_dt dd_X14_holds 35 rfl) (by decide) rfl rfl (Nat.le_of_ble_eq_true rfl) rfl ?_
          refine sw_goto (tgt := 75) O (xx_dt dd_X14_holds 36 rfl) (by decide) ?_
          refine sw_istore (ls2 := [.ref 5000, .int (nI r), .int y, .int (nI tn), .int s6, .int (nI i6), .int (nI ((i6 + tn) % 6)), .int (f_of (f_Bcode σ ((i6 + tn) % 6) (cn (σ 5005 ((i6 + tn) % 6)))) r)]) O (xx_dt dd_X14_holds 38 rfl) (by decide) rfl ?_
          refine sw_iload O (xx_dt dd_X14_holds 39 rfl) rfl ?_
          refine sw_iload O (xx_dt dd_X14_holds 40 rfl) rfl ?_
          refine sw_icmp_ge (tgt := 87) O (xx_dt dd_X14_holds 41 rfl) (by decide) (fun q6 => ?_) (fun q6 => ?_)
          · refine sw_iload O (xx_dt dd_X14_holds 44 rfl) rfl ?_
            refine sw_iload O (xx_dt dd_X14_holds 45 rfl) rfl ?_
            refine sw_isub O (xx_dt dd_X14_holds 46 rfl) ?_
            refine sw_istore (ls2 := [.ref 5000, .int (nI r), .int y, .int (nI tn), .int (s6 - (f_of (f_Bcode σ ((i6 + tn) % 6) (cn (σ 5005 ((i6 + tn) % 6)))) r)), .int (nI i6), .int (nI ((i6 + tn) % 6)), .int (f_of (f_Bcode σ ((i6 + tn) % 6) (cn (σ 5005 ((i6 + tn) % 6)))) r)]) O (xx_dt dd_X14_holds 47 rfl) (by decide) rfl ?_
            refine sw_iinc (y := nI (i6 + 1)) (ls2 := [.ref 5000, .int (nI r), .int y, .int (nI tn), .int (s6 - (f_of (f_Bcode σ ((i6 + tn) % 6) (cn (σ 5005 ((i6 + tn) % 6)))) r)), .int (nI (i6 + 1)), .int (nI ((i6 + tn) % 6)), .int (f_of (f_Bcode σ ((i6 + tn) % 6) (cn (σ 5005 ((i6 + tn) % 6)))) r)]) O (xx_dt dd_X14_holds 48 rfl) rfl (nI_1 _) (by decide) rfl ?_
            refine sw_goto (tgt := 6) O (xx_dt dd_X14_holds 49 rfl) (by decide) ?_
            refine sw_dum (ls2 := [.ref 5000, .int (nI r), .int y, .int (nI tn), .int (s6 - (f_of (f_Bcode σ ((i6 + tn) % 6) (cn (σ 5005 ((i6 + tn) % 6)))) r)), .int (nI (i6 + 1)), xx_d, xx_d]) ⟨.inr rfl, .inr rfl, .inr rfl, .inr rfl, .inr rfl, .inr rfl, .inl rfl, .inl rfl, trivial⟩ ?_
            exact kk6 (s6 - (f_of (f_Bcode σ ((i6 + tn) % 6) (cn (σ 5005 ((i6 + tn) % 6)))) r)) (by simp only [if_neg q2, if_neg q4, if_pos q6])
          · refine sw_iload O (xx_dt dd_X14_holds 42 rfl) rfl ?_
            exact sw_iret O (xx_dt dd_X14_holds 43 rfl) rfl rfl (by rw [hQ, kr6 (nI ((i6 + tn) % 6)) (by simp only [if_neg q2, if_neg q4, if_neg q6])]; exact ⟨rfl, rfl⟩)
  · show SW Y _ _ (setM z σ h) 6 [.ref 5000, .int (nI r), .int y, .int (nI tn), .int sN6, .int (nI 6), xx_d, xx_d] []
    refine sw_iload O (xx_dt dd_X14_holds 4 rfl) rfl ?_
    refine sw_bipush (x := 6) O (xx_dt dd_X14_holds 5 rfl) (by decide) ?_
    refine sw_icmp_ge (tgt := 100) O (xx_dt dd_X14_holds 6 rfl) (by decide) (fun q1 => ?_) (fun q1 => ?_)
    · refine sw_iconst (x := (-1)) O (xx_dt dd_X14_holds 50 rfl) (by decide) ?_
      exact sw_iret O (xx_dt dd_X14_holds 51 rfl) rfl rfl (by rw [hQ]; exact ⟨by unfold f_Mholds; simp only [x_Mholds_6, eN6], rfl⟩)
    · exact absurd (Int32.le_refl _) q1
  · unfold f_Mholds; simp only [x_Mholds_6, eN6]
def x_Mclashes_39 (σ : XS9) (r tn r2 tn2 B : Nat) (sp : Nat → Nat) (s0 : Int32) : Int32 := xit (fun i39 s39 => (if (f_Mholds σ r (nI i39) tn B) = (-1) then s39 + 0 else (if (f_Mholds σ r2 (nI i39) tn2 B) = (-1) then s39 + 0 else (if (f_Mholds σ r (nI i39) tn B) = (f_Mholds σ r2 (nI i39) tn2 B) then s39 + 0 else s39 + 1)))) (min (sp r) (sp r2)) 0 s0
def f_Mclashes (σ : XS9) (r tn r2 tn2 B : Nat) (sp : Nat → Nat) : Int32 := (x_Mclashes_39 σ r tn r2 tn2 B sp 0)
theorem ct_X14_clashes {l : Launch} {h : XH} (hl : l.stackTraces = false) {z : Int64} {σ : XS9} (hbs : xx_bs h) {R : Nat} (hR : σ 5001 900 = nI R) (hR5 : R ≤ 5) {B : Nat} (hB : σ 5002 900 = nI B) (hB6 : B ≤ 6) {pk : Nat → Nat} (hpk : ∀ j, j < B → σ (5030 + j) 900 = nI (2 * pk j) ∧ pk j ≤ 6) (hkp : ∀ j, j < B → σ 5005 j = -1 ∨ ∃ n, n < pk j ∧ σ 5005 j = nI n) {sp : Nat → Nat} (hsp : ∀ r, r < R → σ (5010 + r) 0 = nI (sp r) ∧ sp r ≤ 5) {r tn r2 tn2 : Nat} (hr : r < R) (htn : tn < 100) (hr2 : r2 < R) (htn2 : tn2 < 100) : XEx l m_X14_clashes 6 0 0 [.ref 5000, .int (nI r), .int (nI tn), .int (nI r2), .int (nI tn2)] (setM z σ h) (some (.int (f_Mclashes σ r tn r2 tn2 B sp))) (setM z σ h) := by
  refine XMet.of hl rfl rfl (Nat.le_of_ble_eq_true rfl) (fun Y O hh hQ => ?_)
  show SW Y 0 0 (setM z σ h) 0 [.ref 5000, .int (nI r), .int (nI tn), .int (nI r2), .int (nI tn2), xx_d, xx_d, xx_d, xx_d, xx_d] []
  refine sw_iconst (x := 0) O (xx_dt dd_X14_clashes 0 rfl) (by decide) ?_
  refine sw_istore (ls2 := [.ref 5000, .int (nI r), .int (nI tn), .int (nI r2), .int (nI tn2), .int 0, xx_d, xx_d, xx_d, xx_d]) O (xx_dt dd_X14_clashes 1 rfl) (by decide) rfl ?_
  refine sw_aload_n O (xx_dt dd_X14_clashes 2 rfl) rfl ?_
  refine sw_get (v := .ref 5001) O (xx_dt dd_X14_clashes 3 rfl) cl_X14 fl_X14_23 (lm_mod (σ := σ)) (by decide) rfl ?_
  refine sw_iload_n O (xx_dt dd_X14_clashes 4 rfl) rfl ?_
  refine sw_callVL (ci := 6) (as := [.int (nI r)]) (st := []) (st2 := [.ref (5010 + r)]) O (ct_get hl hbs (lm_5001 (σ := σ) (R := R) hR (by omega)) (by omega) (i := r) (x := 5010 + r) (by omega) (by omega) rfl) ce_Jx4a65c_get_915e3 ml_X14_61 iv_Jx4a65c_get_915e3 cl_Jx4a65c rfl (lm_5001 (σ := σ) (R := R) hR (by omega)) (xx_dt dd_X14_clashes 5 rfl) (by decide) rfl rfl (Nat.le_of_ble_eq_true rfl) rfl ?_
  refine sw_castO O (xx_dt dd_X14_clashes 6 rfl) cl_X12 (lm_reg (σ := σ) (R := R) hR (by omega) (j := r) (by omega)) cw_X14_65 ?_
  have hz14 := (hsp r (by omega)).2
  refine sw_get (v := .int (nI (sp r))) O (xx_dt dd_X14_clashes 7 rfl) cl_X12 fl_X14_81 (lm_reg (σ := σ) (R := R) hR (by omega) (j := r) (by omega)) (by decide) (congrArg Value.int (hsp r (by omega)).1) ?_
  refine sw_aload_n O (xx_dt dd_X14_clashes 8 rfl) rfl ?_
  refine sw_get (v := .ref 5001) O (xx_dt dd_X14_clashes 9 rfl) cl_X14 fl_X14_23 (lm_mod (σ := σ)) (by decide) rfl ?_
  refine sw_iload_n O (xx_dt dd_X14_clashes 10 rfl) rfl ?_
  refine sw_callVL (ci := 6) (as := [.int (nI r2)]) (st := [.int (nI (sp r))]) (st2 := [.ref (5010 + r2), .int (nI (sp r))]) O (ct_get hl hbs (lm_5001 (σ := σ) (R := R) hR (by omega)) (by omega) (i := r2) (x := 5010 + r2) (by omega) (by omega) rfl) ce_Jx4a65c_get_915e3 ml_X14_61 iv_Jx4a65c_get_915e3 cl_Jx4a65c rfl (lm_5001 (σ := σ) (R := R) hR (by omega)) (xx_dt dd_X14_clashes 11 rfl) (by decide) rfl rfl (Nat.le_of_ble_eq_true rfl) rfl ?_
  refine sw_castO O (xx_dt dd_X14_clashes 12 rfl) cl_X12 (lm_reg (σ := σ) (R := R) hR (by omega) (j := r2) (by omega)) cw_X14_65 ?_
  have hz28 := (hsp r2 (by omega)).2
  refine sw_get (v := .int (nI (sp r2))) O (xx_dt dd_X14_clashes 13 rfl) cl_X12 fl_X14_81 (lm_reg (σ := σ) (R := R) hR (by omega) (j := r2) (by omega)) (by decide) (congrArg Value.int (hsp r2 (by omega)).1) ?_
  refine sw_min O mm_X14_213 (xx_dt dd_X14_clashes 14 rfl) (by omega) (Nat.le_of_ble_eq_true rfl) ?_
  rw [min_nat (a := sp r) (b := sp r2) (by omega) (by omega)]
  refine sw_istore (ls2 := [.ref 5000, .int (nI r), .int (nI tn), .int (nI r2), .int (nI tn2), .int 0, .int (nI (min (sp r) (sp r2))), xx_d, xx_d, xx_d]) O (xx_dt dd_X14_clashes 15 rfl) (by decide) rfl ?_
  refine sw_iconst (x := 0) O (xx_dt dd_X14_clashes 16 rfl) (by decide) ?_
  refine sw_istore (ls2 := [.ref 5000, .int (nI r), .int (nI tn), .int (nI r2), .int (nI tn2), .int 0, .int (nI (min (sp r) (sp r2))), .int 0, xx_d, xx_d]) O (xx_dt dd_X14_clashes 17 rfl) (by decide) rfl ?_
  refine sw_for (S := Int32) (fun i39 s39 => (if (f_Mholds σ r (nI i39) tn B) = (-1) then s39 + 0 else (if (f_Mholds σ r2 (nI i39) tn2 B) = (-1) then s39 + 0 else (if (f_Mholds σ r (nI i39) tn B) = (f_Mholds σ r2 (nI i39) tn2 B) then s39 + 0 else s39 + 1)))) (fun _ _ => True) (hp := fun _ => setM z σ h) (hd := 39) (lc := fun i39 s39 => [.ref 5000, .int (nI r), .int (nI tn), .int (nI r2), .int (nI tn2), .int s39, .int (nI (min (sp r) (sp r2))), .int (nI i39), xx_d, xx_d]) (N := (min (sp r) (sp r2))) (fun i39 s39 hi39 hP39 => ⟨trivial, fun kk39 => ?_⟩) (min (sp r) (sp r2)) 0 0 (by omega) (trivial) (fun hP39 => ?_)
  · refine sw_iload O (xx_dt dd_X14_clashes 18 rfl) rfl ?_
    refine sw_iload O (xx_dt dd_X14_clashes 19 rfl) rfl ?_
    refine sw_icmp_ge (tgt := 102) O (xx_dt dd_X14_clashes 20 rfl) (by decide) (fun q1 => ?_) (fun q1 => ?_)
    · exact absurd q1 (nI_ge (b := (min (sp r) (sp r2))) hi39 (by omega))
    · refine sw_aload_n O (xx_dt dd_X14_clashes 21 rfl) rfl ?_
      refine sw_iload_n O (xx_dt dd_X14_clashes 22 rfl) rfl ?_
      refine sw_iload O (xx_dt dd_X14_clashes 23 rfl) rfl ?_
      refine sw_iload_n O (xx_dt dd_X14_clashes 24 rfl) rfl ?_
      refine sw_callVx (as := [.int (nI r), .int (nI i39), .int (nI tn)]) (st := []) (st2 := [.int (f_Mholds σ r (nI i39) tn B)]) O (ct_X14_holds hl (z := z) (σ := σ) hbs (R := R) hR (by omega) (B := B) hB (by omega) (pk := pk) hpk hkp (r := r) (y := nI i39) (tn := tn) (by omega) (by omega)) ce_X14_holds ml_X14_243 iv_X14_holds cl_X14 rfl (lm_mod (σ := σ)) (xx_dt dd_X14_clashes 25 rfl) (by decide) rfl rfl (Nat.le_of_ble_eq_true rfl) rfl ?_
      refine sw_istore (ls2 := [.ref 5000, .int (nI r), .int (nI tn), .int (nI r2), .int (nI tn2), .int s39, .int (nI (min (sp r) (sp r2))), .int (nI i39), .int (f_Mholds σ r (nI i39) tn B), xx_d]) O (xx_dt dd_X14_clashes 26 rfl) (by decide) rfl ?_
      refine sw_aload_n O (xx_dt dd_X14_clashes 27 rfl) rfl ?_
      refine sw_iload_n O (xx_dt dd_X14_clashes 28 rfl) rfl ?_
      refine sw_iload O (xx_dt dd_X14_clashes 29 rfl) rfl ?_
      refine sw_iload O (xx_dt dd_X14_clashes 30 rfl) rfl ?_
      refine sw_callVx (as := [.int (nI r2), .int (nI i39), .int (nI tn2)]) (st := []) (st2 := [.int (f_Mholds σ r2 (nI i39) tn2 B)]) O (ct_X14_holds hl (z := z) (σ := σ) hbs (R := R) hR (by omega) (B := B) hB (by omega) (pk := pk) hpk hkp (r := r2) (y := nI i39) (tn := tn2) (by omega) (by omega)) ce_X14_holds ml_X14_243 iv_X14_holds cl_X14 rfl (lm_mod (σ := σ)) (xx_dt dd_X14_clashes 31 rfl) (by decide) rfl rfl (Nat.le_of_ble_eq_true rfl) rfl ?_
      refine sw_istore (ls2 := [.ref 5000, .int (nI r), .int (nI tn), .int (nI r2), .int (nI tn2), .int s39, .int (nI (min (sp r) (sp r2))), .int (nI i39), .int (f_Mholds σ r (nI i39) tn B), .int (f_Mholds σ r2 (nI i39) tn2 B)]) O (xx_dt dd_X14_clashes 32 rfl) (by decide) rfl ?_
      refine sw_iload O (xx_dt dd_X14_clashes 33 rfl) rfl ?_
      refine sw_iload O (xx_dt dd_X14_clashes 34 rfl) rfl ?_
      refine sw_iconst (x := (-1)) O (xx_dt dd_X14_clashes 35 rfl) (by decide) ?_
      refine sw_icmp_eq (tgt := 92) O (xx_dt dd_X14_clashes 36 rfl) (by decide) (fun q2 => ?_) (fun q2 => ?_)
      · refine sw_iconst (x := 0) O (xx_dt dd_X14_clashes 45 rfl) (by decide) ?_
        refine sw_iadd O (xx_dt dd_X14_clashes 46 rfl) ?_
        refine sw_istore (ls2 := [.ref 5000, .int (nI r), .int (nI tn), .int (nI r2), .int (nI tn2), .int (s39 + 0), .int (nI (min (sp r) (sp r2))), .int (nI i39), .int (f_Mholds σ r (nI i39) tn B), .int (f_Mholds σ r2 (nI i39) tn2 B)]) O (xx_dt dd_X14_clashes 47 rfl) (by decide) rfl ?_
        refine sw_iinc (y := nI (i39 + 1)) (ls2 := [.ref 5000, .int (nI r), .int (nI tn), .int (nI r2), .int (nI tn2), .int (s39 + 0), .int (nI (min (sp r) (sp r2))), .int (nI (i39 + 1)), .int (f_Mholds σ r (nI i39) tn B), .int (f_Mholds σ r2 (nI i39) tn2 B)]) O (xx_dt dd_X14_clashes 48 rfl) rfl (nI_1 _) (by decide) rfl ?_
        refine sw_goto (tgt := 39) O (xx_dt dd_X14_clashes 49 rfl) (by decide) ?_
        refine sw_dum (ls2 := [.ref 5000, .int (nI r), .int (nI tn), .int (nI r2), .int (nI tn2), .int (s39 + 0), .int (nI (min (sp r) (sp r2))), .int (nI (i39 + 1)), xx_d, xx_d]) ⟨.inr rfl, .inr rfl, .inr rfl, .inr rfl, .inr rfl, .inr rfl, .inr rfl, .inr rfl, .inl rfl, .inl rfl, trivial⟩ ?_
        simp only [if_pos q2] at kk39
        exact kk39
      · refine sw_iload O (xx_dt dd_X14_clashes 37 rfl) rfl ?_
        refine sw_iconst (x := (-1)) O (xx_dt dd_X14_clashes 38 rfl) (by decide) ?_
        refine sw_icmp_eq (tgt := 92) O (xx_dt dd_X14_clashes 39 rfl) (by decide) (fun q3 => ?_) (fun q3 => ?_)
        · refine sw_iconst (x := 0) O (xx_dt dd_X14_clashes 45 rfl) (by decide) ?_
          refine sw_iadd O (xx_dt dd_X14_clashes 46 rfl) ?_
          refine sw_istore (ls2 := [.ref 5000, .int (nI r), .int (nI tn), .int (nI r2), .int (nI tn2), .int (s39 + 0), .int (nI (min (sp r) (sp r2))), .int (nI i39), .int (f_Mholds σ r (nI i39) tn B), .int (f_Mholds σ r2 (nI i39) tn2 B)]) O (xx_dt dd_X14_clashes 47 rfl) (by decide) rfl ?_
          refine sw_iinc (y := nI (i39 + 1)) (ls2 := [.ref 5000, .int (nI r), .int (nI tn), .int (nI r2), .int (nI tn2), .int (s39 + 0), .int (nI (min (sp r) (sp r2))), .int (nI (i39 + 1)), .int (f_Mholds σ r (nI i39) tn B), .int (f_Mholds σ r2 (nI i39) tn2 B)]) O (xx_dt dd_X14_clashes 48 rfl) rfl (nI_1 _) (by decide) rfl ?_
          refine sw_goto (tgt := 39) O (xx_dt dd_X14_clashes 49 rfl) (by decide) ?_
          refine sw_dum (ls2 := [.ref 5000, .int (nI r), .int (nI tn), .int (nI r2), .int (nI tn2), .int (s39 + 0), .int (nI (min (sp r) (sp r2))), .int (nI (i39 + 1)), xx_d, xx_d]) ⟨.inr rfl, .inr rfl, .inr rfl, .inr rfl, .inr rfl, .inr rfl, .inr rfl, .inr rfl, .inl rfl, .inl rfl, trivial⟩ ?_
          simp only [if_neg q2, if_pos q3] at kk39
          exact kk39
        · refine sw_iload O (xx_dt dd_X14_clashes 40 rfl) rfl ?_
          refine sw_iload O (xx_dt dd_X14_clashes 41 rfl) rfl ?_
          refine sw_icmp_eq (tgt := 92) O (xx_dt dd_X14_clashes 42 rfl) (by decide) (fun q4 => ?_) (fun q4 => ?_)
          · refine sw_iconst (x := 0) O (xx_dt dd_X14_clashes 45 rfl) (by decide) ?_
            refine sw_iadd O (xx_dt dd_X14_clashes 46 rfl) ?_
            refine sw_istore (ls2 := [.ref 5000, .int (nI r), .int (nI tn), .int (nI r2), .int (nI tn2), .int (s39 + 0), .int (nI (min (sp r) (sp r2))), .int (nI i39), .int (f_Mholds σ r (nI i39) tn B), .int (f_Mholds σ r2 (nI i39) tn2 B)]) O (xx_dt dd_X14_clashes 47 rfl) (by decide) rfl ?_
            refine sw_iinc (y := nI (i39 + 1)) (ls2 := [.ref 5000, .int (nI r), .int (nI tn), .int (nI r2), .int (nI tn2), .int (s39 + 0), .int (nI (min (sp r) (sp r2))), .int (nI (i39 + 1)), .int (f_Mholds σ r (nI i39) tn B), .int (f_Mholds σ r2 (nI i39) tn2 B)]) O (xx_dt dd_X14_clashes 48 rfl) rfl (nI_1 _) (by decide) rfl ?_
            refine sw_goto (tgt := 39) O (xx_dt dd_X14_clashes 49 rfl) (by decide) ?_
            refine sw_dum (ls2 := [.ref 5000, .int (nI r), .int (nI tn), .int (nI r2), .int (nI tn2), .int (s39 + 0), .int (nI (min (sp r) (sp r2))), .int (nI (i39 + 1)), xx_d, xx_d]) ⟨.inr rfl, .inr rfl, .inr rfl, .inr rfl, .inr rfl, .inr rfl, .inr rfl, .inr rfl, .inl rfl, .inl rfl, trivial⟩ ?_
            simp only [if_neg q2, if_neg q3, if_pos q4] at kk39
            exact kk39
          · refine sw_iconst (x := 1) O (xx_dt dd_X14_clashes 43 rfl) (by decide) ?_
            refine sw_goto (tgt := 93) O (xx_dt dd_X14_clashes 44 rfl) (by decide) ?_
            refine sw_iadd O (xx_dt dd_X14_clashes 46 rfl) ?_
            refine sw_istore (ls2 := [.ref 5000, .int (nI r), .int (nI tn), .int (nI r2), .int (nI tn2), .int (s39 + 1), .int (nI (min (sp r) (sp r2))), .int (nI i39), .int (f_Mholds σ r (nI i39) tn B), .int (f_Mholds σ r2 (nI i39) tn2 B)]) O (xx_dt dd_X14_clashes 47 rfl) (by decide) rfl ?_
            refine sw_iinc (y := nI (i39 + 1)) (ls2 := [.ref 5000, .int (nI r), .int (nI tn), .int (nI r2), .int (nI tn2), .int (s39 + 1), .int (nI (min (sp r) (sp r2))), .int (nI (i39 + 1)), .int (f_Mholds σ r (nI i39) tn B), .int (f_Mholds σ r2 (nI i39) tn2 B)]) O (xx_dt dd_X14_clashes 48 rfl) rfl (nI_1 _) (by decide) rfl ?_
            refine sw_goto (tgt := 39) O (xx_dt dd_X14_clashes 49 rfl) (by decide) ?_
            refine sw_dum (ls2 := [.ref 5000, .int (nI r), .int (nI tn), .int (nI r2), .int (nI tn2), .int (s39 + 1), .int (nI (min (sp r) (sp r2))), .int (nI (i39 + 1)), xx_d, xx_d]) ⟨.inr rfl, .inr rfl, .inr rfl, .inr rfl, .inr rfl, .inr rfl, .inr rfl, .inr rfl, .inl rfl, .inl rfl, trivial⟩ ?_
            simp only [if_neg q2, if_neg q3, if_neg q4] at kk39
            exact kk39
  · show SW Y _ _ (setM z σ h) 39 [.ref 5000, .int (nI r), .int (nI tn), .int (nI r2), .int (nI tn2), .int (x_Mclashes_39 σ r tn r2 tn2 B sp 0), .int (nI (min (sp r) (sp r2))), .int (nI ((min (sp r) (sp r2)))), xx_d, xx_d] []
    refine sw_iload O (xx_dt dd_X14_clashes 18 rfl) rfl ?_
    refine sw_iload O (xx_dt dd_X14_clashes 19 rfl) rfl ?_
    refine sw_icmp_ge (tgt := 102) O (xx_dt dd_X14_clashes 20 rfl) (by decide) (fun q1 => ?_) (fun q1 => ?_)
    · refine sw_iload O (xx_dt dd_X14_clashes 50 rfl) rfl ?_
      exact sw_iret O (xx_dt dd_X14_clashes 51 rfl) rfl rfl (by rw [hQ]; exact ⟨by unfold f_Mclashes; rfl, rfl⟩)
    · exact absurd (Int32.le_refl _) q1
end
