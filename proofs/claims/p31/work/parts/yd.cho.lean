/-! ===== the reference's choice, and the program's winners ===== -/
def mX (D : Nat → Nat → Nat → Nat) (gr q : Nat → Nat) (cap R : Nat) (pk : Nat → Nat) (t : XS9) (d : Nat → Nat) : Prop := (cOk pk d ∧ cFe D gr q cap R d) ∧ ∀ j, j < 6 → d j ≠ 0 → t (5020 + j) 4 = 0
section
variable {σ s t τ : XS9} {D : Nat → Nat → Nat → Nat} {A : Nat → Nat → Nat} {gr grM q pk pkM : Nat → Nat} {cd : Nat → Nat → Nat} {cap R B : Nat} {c d : Nat → Nat}
theorem CinitB_same {s9 : XS9} : x_CinitB_138 t s9 = x_CinitA_138 t s9 := rfl
/-- before the packages there is nothing to choose -/
theorem cinitB_rows : (∀ j, j < 6 → g_CinitB t R B pkM grM cd 9001 j = -1) ∧ ∀ S, S < 64 → g_CinitB t R B pkM grM cd 9003 S = 0 := by
  have z : ∀ S, x_CinitB_109 t (x_CinitB_55 t R (u2 (g_cho0 t) 9000 5 (-1))) 9003 S = 0 := fun S => by
    rw [show x_CinitB_109 t (x_CinitB_55 t R (u2 (g_cho0 t) 9000 5 (-1))) 9003 = x_CinitB_55 t R (u2 (g_cho0 t) 9000 5 (-1)) 9003 from xit_keep (fun s : XS9 => s 9003) (fun i s => by (try dsimp only); rw [u2_ne (by decide)]) _ _ _, show x_CinitB_55 t R (u2 (g_cho0 t) 9000 5 (-1)) 9003 = u2 (g_cho0 t) 9000 5 (-1) 9003 from xit_keep (fun s : XS9 => s 9003) (fun i s => by (try dsimp only); rw [u2_ne (by decide)]) _ _ _, u2_ne (by decide)]
    unfold g_cho0
    rw [if_neg (by decide), if_pos (by decide)]
  have C := clo_m (σ := t) (s := x_CinitB_109 t (x_CinitB_55 t R (u2 (g_cho0 t) 9000 5 (-1)))) (b := fun _ => 0) (fun S _ => ⟨z S, by omega⟩)
  unfold g_CinitB
  rw [CinitB_same]
  refine ⟨fun j hj => ?_, fun S hS => ?_⟩
  · rw [C.2 9001 (by decide)]
    exact put_all (v := fun _ => -1) 6 0 _ (fun h => absurd h (by omega)) (by omega)
  · obtain ⟨w, w1, _, _, T, _, _, w3⟩ := C.1 S hS
    rw [w1, ← w3]
    rfl
theorem cinitA_ok (hg : ∀ j, j < 6 → gr j < 4) (hp6 : ∀ j, j < 6 → pk j ≤ 6) (hpk : ∀ j, B ≤ j → j < 6 → pk j = 0) (hB6 : B ≤ 6) (hR5 : R ≤ 5) (eg : ∀ j, j < B → grM j = gr j) (ep : ∀ j, j < B → pkM j = pk j) (P : PCm D A q cap R B pk cd t) (hq : ∀ r, r < R → t (5010 + r) 0 = nI (q r)) : WN A (mX D gr q cap R pk t) (g_CinitA t R B pkM grM cd 9001) ∧ WW A (mX D gr q cap R pk t) (g_CinitA t R B pkM grM cd 9003) := by
  have c0 : ∀ q, (q = 9001 ∨ q = 9002 ∨ q = 9003 ∨ q = 9004 ∨ q = 9005) → ∀ i, g_cho0 t q i = 0 := fun q hq i => by
    unfold g_cho0
    rw [if_neg (by omega), if_pos (by omega)]
  have k55 : ∀ (s9 : XS9) (a : Nat), a ≠ 9004 → x_CinitA_55 t R s9 a = s9 a := fun s9 a ha => xit_keep (fun s : XS9 => s a) (fun i s => by (try dsimp only); rw [u2_ne ha]) _ _ _
  have rows : ∀ a, a < 9000 → x_CinitA_55 t R (u2 (g_cho0 t) 9000 5 (-1)) a = t a := fun a ha => by
    rw [k55 _ a (by omega), u2_ne (by omega)]
    unfold g_cho0
    rw [if_neg (by omega), if_neg (by omega)]
  have r4 : ∀ r, r < R → x_CinitA_55 t R (u2 (g_cho0 t) 9000 5 (-1)) 9004 r = t (5010 + r) 0 := fun r hr => put_all (v := fun i => t (5010 + i) 0) R 0 _ (fun h => absurd h (by omega)) (by omega)
  have z3 : ∀ S, x_CinitA_55 t R (u2 (g_cho0 t) 9000 5 (-1)) 9003 S = 0 := fun S => by
    rw [k55 _ _ (by decide), u2_ne (by decide)]
    exact c0 9003 (by omega) S
  have C := cp_ok (D := D) (A := A) (gr := gr) (grM := grM) (q := q) (pk := pk) (pkM := pkM) (cd := cd) (cap := cap) (R := R) (B := B) (t := t) hg hp6 hpk hB6 hR5 eg ep P B 0 (Nat.zero_add _) (x_CinitA_55 t R (u2 (g_cho0 t) 9000 5 (-1))) 0 0 (fun _ => 0) (fun _ => False) rows ⟨fun j hj => absurd hj (by omega), fun r hr => by rw [r4 r hr, hq r hr, cTk_0, Nat.sub_zero], fun g hg4 r hr => by rw [k55 _ _ (by decide), u2_ne (by decide), c0 9005 (by omega), cTg_0]; rfl⟩ ⟨fun S hS => ⟨0, by rw [z3]; rfl, by omega, fun d hd => hd.elim, .inl rfl⟩, .inl ⟨by rw [k55 _ _ (by decide), u2_at], fun _ h => h⟩⟩ (fun d hd => hd.elim) cOk_0 cFe_0 (fun _ _ _ => rfl) (fun j _ hn => absurd rfl hn) cSp_0.symm (by rw [cAm_0]; rfl)
  unfold g_CinitA
  generalize g_Cpick B pkM grM cd B 0 (x_CinitA_55 t R (u2 (g_cho0 t) 9000 5 (-1))) 0 0 = s9 at C ⊢
  obtain ⟨_, _, O⟩ := C
  have O := O.iff (Y := mX D gr q cap R pk t) fun d => ⟨fun h => h.elim (fun z => z.elim) fun ⟨h1, h2, _, h4⟩ => ⟨⟨h1, h2⟩, h4⟩, fun ⟨⟨h1, h2⟩, h4⟩ => .inr ⟨h1, h2, fun j hj => absurd hj (by omega), h4⟩⟩
  have z0 : mX D gr q cap R pk t (fun _ => 0) := ⟨⟨cOk_0, cFe_0⟩, fun j _ hn => absurd rfl hn⟩
  have bv : ∀ S, S < 64 → s9 9003 S = nI (cn (s9 9003 S)) ∧ cn (s9 9003 S) ≤ 1800000 ∧ (∀ d, mX D gr q cap R pk t d → cSp d = S → cAm A d ≤ cn (s9 9003 S)) ∧ (cn (s9 9003 S) = 0 ∨ ∃ c, mX D gr q cap R pk t c ∧ cSp c = S ∧ cAm A c = cn (s9 9003 S)) := fun S hS => by
    obtain ⟨w, w1, w2, w3, w4⟩ := O.1 S hS
    rw [w1, cn_nI (by omega)]
    exact ⟨rfl, w2, w3, w4⟩
  have L := clo_m (σ := t) (s := s9) (b := fun S => cn (s9 9003 S)) (fun S hS => ⟨(bv S hS).1, (bv S hS).2.1⟩)
  refine ⟨?_, fun S => cn (s9 9003 S), fun S hS => ⟨(bv S hS).2.2.1, (bv S hS).2.2.2⟩, L.1⟩
  rw [L.2 9001 (by decide)]
  rcases O.2 with ⟨_, b⟩ | ⟨c, c1, c2, c3, c4⟩
  · exact absurd z0 (b _)
  · exact ⟨c, c1, c4, c3⟩
/-- both have the same winners and worths -/
theorem cho_eq (hs : ¬ t 5000 1 ≤ 1) (F : TKF t) (m : MKT t σ) (w : MKW t σ) : (∀ j, j < 6 → g_Cinit t (mR t) (mB t) (mpk t) (mgr t) (mcd t) 9001 j = σ 1040 j) ∧ ∀ S, S < 64 → g_Cinit t (mR t) (mB t) (mpk t) (mgr t) (mcd t) 9003 S = σ 1041 S := by
  obtain ⟨⟨hR5, hB6⟩, hsp, hcap, hj⟩ := F
  have e : g_Cinit t (mR t) (mB t) (mpk t) (mgr t) (mcd t) = g_CinitA t (mR t) (mB t) (mpk t) (mgr t) (mcd t) := if_neg hs
  rw [e]
  have P : PCm (Dm t) (Am t) (msp t) (cn (t 5000 2)) (mR t) (mB t) (pkB t) (mcd t) t := ⟨fun r hr => (hsp r hr).2, ⟨hcap.1, hcap.2⟩, fun j hjB k hk => by
    obtain ⟨h1, h2⟩ := pkB_lt hk
    obtain ⟨h3, h4, h5⟩ := (hj j h1).2.2 k h2
    exact ⟨h3.2, h4, fun r _ => rfl, h5.1, h5.2⟩⟩
  have g0 : ∀ j, j < 6 → (fun j => if j < mB t then mgr t j else 0) j < 4 := fun j hj6 => by
    (try dsimp only)
    split
    · rename_i l
      exact (hj j l).2.1
    · decide
  have p6 : ∀ j, j < 6 → pkB t j ≤ 6 := fun j hj6 => by
    unfold pkB
    split
    · rename_i l
      exact (hj j l).1
    · omega
  obtain ⟨a, b⟩ := cinitA_ok (D := Dm t) (A := Am t) (gr := fun j => if j < mB t then mgr t j else 0) (grM := mgr t) (q := msp t) (pk := pkB t) (pkM := mpk t) (cd := mcd t) (cap := cn (t 5000 2)) (R := mR t) (B := mB t) (t := t) g0 p6 (fun j h1 h2 => pkB_z h1) hB6 hR5 (fun j h => (if_pos h).symm) (fun j h => (if_pos h).symm) P (fun r hr => (hsp r hr).1)
  have X : ∀ d, mX (Dm t) (fun j => if j < mB t then mgr t j else 0) (msp t) (cn (t 5000 2)) (mR t) (pkB t) t d ↔ ouX (Xm t) (σ 1003 5) d := fun d => by
    refine and_congr (and_congr_right fun hd => ?_) (forall_congr' fun j => forall_congr' fun hj6 => imp_congr Iff.rfl (m.2.2 j hj6).symm)
    refine forall_congr' fun r => forall_congr' fun hr => and_congr Iff.rfl (forall_congr' fun g => forall_congr' fun _ => ?_)
    rw [show cTg (Dm t) (fun j => if j < mB t then mgr t j else 0) g r d = cTg (Dm t) (mgr t) g r d from nsum_cg fun j hj6 => by
      unfold cGd
      (try dsimp only)
      rcases Nat.lt_or_ge j (mB t) with l | l
      · simp only [if_pos l]
      · have z : d j = 0 := by
          have := hd j hj6
          rw [pkB_z l] at this
          omega
        have z2 : cDg (Dm t) r d j = 0 := if_pos z
        rw [z2]
        exact (ite_self _).trans (ite_self _).symm]
  exact ⟨fun j hj6 => (a.iff X).uniq w.1 hj6, fun S hS => (b.iff X).uniq w.2 hS⟩
end
