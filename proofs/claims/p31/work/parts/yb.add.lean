/-! ===== packages and winners, alike on both sides: one more package ===== -/
def Dm (τ : XS9) (j k r : Nat) : Nat := dgt (τ (5030 + j) (2 * k)) r
def Am (τ : XS9) (j k : Nat) : Nat := cn (τ (5030 + j) (2 * k + 1))
def pkB (τ : XS9) (j : Nat) : Nat := if j < mB τ then mpk τ j else 0
def Xm (τ : XS9) (c : Nat → Nat) : Prop := cOk (pkB τ) c ∧ cFe (Dm τ) (mgr τ) (msp τ) (cn (τ 5000 2)) (mR τ) c
/-- packages alike -/
def RK (τ σ : XS9) : Prop := bd 5 (τ 5000 2) ∧ (∀ j, j < 6 → σ 1020 j = nI (pkB τ j)) ∧ ∀ j, j < mB τ → ∀ k, k < mpk τ j → σ (1022 + j) k = τ (5030 + j) (2 * k) ∧ σ (1031 + j) k = τ (5030 + j) (2 * k + 1) ∧ cn (τ (5030 + j) (2 * k)) < 6 ^ mR τ
/-- the search's rows at rest -/
def SC0 (s : XS9) : Prop := (∀ j, j < 6 → s 1043 j = -1) ∧ (∀ r, r < 5 → s 1044 r = 0) ∧ ∀ g, g < 4 → ∀ r, r < 5 → s (1121 + g) r = 0
def MKT (τ σ : XS9) : Prop := SC0 σ ∧ BOc (Am τ) (Xm τ) σ ∧ ∀ j, j < 6 → (bt (σ 1003 5) j = false ↔ τ (5020 + j) 4 = 0)
def MKW (τ σ : XS9) : Prop := WN (Am τ) (ouX (Xm τ) (σ 1003 5)) (σ 1040) ∧ WW (Am τ) (ouX (Xm τ) (σ 1003 5)) (σ 1041)
/-- what a choice of the reference rests on -/
def TKF (t : XS9) : Prop := (mR t ≤ 5 ∧ mB t ≤ 6) ∧ (∀ r, r < mR t → t (5010 + r) 0 = nI (msp t r) ∧ msp t r ≤ 5) ∧ bd 5 (t 5000 2) ∧ ∀ j, j < mB t → mpk t j ≤ 6 ∧ mgr t j < 4 ∧ ∀ k, k < mpk t j → bd 7775 (t (5030 + j) (2 * k)) ∧ cn (t (5030 + j) (2 * k)) < 6 ^ mR t ∧ bd 300000 (t (5030 + j) (2 * k + 1))
/-- the places that it speaks of -/
def kt (q i : Nat) : Prop := ((q = 5001 ∨ q = 5002) ∧ i = 900) ∨ (q = 5000 ∧ i = 2) ∨ (5010 ≤ q ∧ q ≤ 5014 ∧ i = 0) ∨ (5020 ≤ q ∧ q ≤ 5025 ∧ i = 3) ∨ (5030 ≤ q ∧ q ≤ 5035)
/-- what was told, alike -/
def TA (τ σ : XS9) : Prop := σ 1001 10 = τ 5000 2 ∧ ∀ r, r < 5 → σ 1010 r = τ (5010 + r) 0
section
variable {τ τ2 σ σ2 s t : XS9} {A A2 : Nat → Nat → Nat} {D D2 : Nat → Nat → Nat → Nat} {gr q pk : Nat → Nat} {cap R B i : Nat} {X Y : (Nat → Nat) → Prop} {c d : Nat → Nat}
theorem RK.mx (h : RK τ σ) : τ 5000 2 = nI (cn (τ 5000 2)) ∧ cn (τ 5000 2) ≤ 5 := h.1
theorem RK.n (h : RK τ σ) {j : Nat} (hj : j < 6) : σ 1020 j = nI (pkB τ j) := h.2.1 j hj
theorem RK.cd (h : RK τ σ) {j k : Nat} (hj : j < mB τ) (hk : k < mpk τ j) : σ (1022 + j) k = τ (5030 + j) (2 * k) := (h.2.2 j hj k hk).1
theorem RK.a (h : RK τ σ) {j k : Nat} (hj : j < mB τ) (hk : k < mpk τ j) : σ (1031 + j) k = τ (5030 + j) (2 * k + 1) := (h.2.2 j hj k hk).2.1
theorem RK.lt (h : RK τ σ) {j k : Nat} (hj : j < mB τ) (hk : k < mpk τ j) : cn (τ (5030 + j) (2 * k)) < 6 ^ mR τ := (h.2.2 j hj k hk).2.2
theorem pkB_lt {j k : Nat} (h : k < pkB τ j) : j < mB τ ∧ k < mpk τ j := by
  unfold pkB at h
  split at h
  · rename_i l
    exact ⟨l, h⟩
  · omega
theorem pkB_z {j : Nat} (h : mB τ ≤ j) : pkB τ j = 0 := if_neg (by omega)
theorem Dm_bd (r : JR τ) {j k : Nat} (hj : j < mB τ) (hk : k < mpk τ j) : bd 7775 (τ (5030 + j) (2 * k)) := by
  obtain ⟨a, b⟩ := r.hcd j k hj hk
  exact ⟨a, Nat.le_of_lt_succ b⟩
theorem TA.mk (a : RA τ σ) : TA τ σ := ⟨a.1.2.1, fun r hr => (a.2.1 r hr).1⟩
theorem TKF.of (h : TKF τ) (e : ∀ q i, kt q i → t q i = τ q i) : TKF t := by
  obtain ⟨⟨h1, h2⟩, h3, h4, h5⟩ := h
  have e1 : mR t = mR τ := congrArg cn (e _ _ (by unfold kt; omega))
  have e2 : mB t = mB τ := congrArg cn (e _ _ (by unfold kt; omega))
  refine ⟨⟨by rw [e1]; exact h1, by rw [e2]; exact h2⟩, fun r hr => ?_, by rw [e _ _ (by unfold kt; omega)]; exact h4, fun j hj => ?_⟩
  · rw [e1] at hr
    show t (5010 + r) 0 = nI (cn (t (5010 + r) 0)) ∧ cn (t (5010 + r) 0) ≤ 5
    rw [e _ _ (by unfold kt; omega)]
    exact h3 r hr
  · rw [e2] at hj
    have ep : mpk t j = mpk τ j := by
      show cn (t (5030 + j) 900) / 2 = _
      rw [e _ _ (by unfold kt; omega)]
    have eg : mgr t j = mgr τ j := by
      show cn (t (5020 + j) 3) = _
      rw [e _ _ (by unfold kt; omega)]
    rw [ep, eg, e1]
    refine ⟨(h5 j hj).1, (h5 j hj).2.1, fun k hk => ?_⟩
    rw [e _ _ (by unfold kt; omega), e _ _ (by unfold kt; omega)]
    exact (h5 j hj).2.2 k hk
theorem TKF.mk (r : JR τ) (k : RK τ σ) (p : JP τ) : TKF τ := ⟨⟨r.hR.2, r.hB.2⟩, r.hsp, k.1, fun j hj => ⟨(r.hpk j hj).2, (r.hgr j hj).2, fun k9 hk => ⟨Dm_bd r hj hk, k.lt hj hk, AMs.ofP p j k9 (by have := r.hB.2; omega) (by have := (r.hpk j hj).2; omega)⟩⟩⟩
theorem TKF.p6 (F : TKF t) : ∀ j, j < 6 → pkB t j ≤ 6 := fun j hj => by
  unfold pkB
  split
  · rename_i l
    exact (F.2.2.2 j l).1
  · omega
theorem TKF.pcm (F : TKF t) {j k : Nat} (hj : j < mB t) (hk : k < mpk t j) : t (5030 + j) (2 * k + 1) = nI (Am t j k) := ((F.2.2.2 j hj).2.2 k hk).2.2.1
theorem PCx.mk (a : TA τ σ) (F : TKF τ) (h : RK τ σ) : PCx (Dm τ) (Am τ) (msp τ) (cn (τ 5000 2)) (mR τ) (pkB τ) σ := by
  have hR5 := F.1.1
  refine ⟨fun q hq => ?_, ⟨a.1.trans h.mx.1, h.mx.2⟩, fun j hj k hk => ?_⟩
  · rw [a.2 q (by omega)]
    exact F.2.1 q hq
  · obtain ⟨h1, h2⟩ := pkB_lt hk
    obtain ⟨d1, d2, d3⟩ := (F.2.2.2 j h1).2.2 k h2
    rw [h.cd h1 h2, h.a h1 h2]
    exact ⟨d1, fun _ _ => rfl, d3.1, d3.2⟩
/-! choices that are alike -/
theorem cAm_cg (h : ∀ j, j < 6 → ∀ k, k < pk j → A j k = A2 j k) (hc : cOk pk c) : cAm A c = cAm A2 c := nsum_cg fun j hj => by
  have := hc j hj
  unfold cAd
  split
  · rfl
  · exact h j hj _ (by omega)
theorem cTk_cg2 {r : Nat} (h : ∀ j, j < 6 → ∀ k, k < pk j → D j k r = D2 j k r) (hc : cOk pk c) : cTk D r c = cTk D2 r c := nsum_cg fun j hj => by
  have := hc j hj
  unfold cDg
  split
  · rfl
  · exact h j hj _ (by omega)
theorem cTg_cg2 {r g : Nat} (h : ∀ j, j < 6 → ∀ k, k < pk j → D j k r = D2 j k r) (hc : cOk pk c) : cTg D gr g r c = cTg D2 gr g r c := nsum_cg fun j hj => by
  have := hc j hj
  unfold cGd cDg
  split
  · split
    · rfl
    · exact h j hj _ (by omega)
  · rfl
theorem cFe_cg (h : ∀ r, r < R → ∀ j, j < 6 → ∀ k, k < pk j → D j k r = D2 j k r) (hc : cOk pk c) : cFe D gr q cap R c ↔ cFe D2 gr q cap R c := by
  refine forall_congr' fun r => forall_congr' fun hr => ?_
  rw [cTk_cg2 (h r hr) hc]
  refine and_congr Iff.rfl (forall_congr' fun g => forall_congr' fun _ => ?_)
  rw [cTg_cg2 (h r hr) hc]
theorem btr_cg (h1 : cAm A c = cAm A2 c) (h2 : cAm A d = cAm A2 d) : btr A c d ↔ btr A2 c d := by
  unfold btr
  rw [h1, h2]
theorem BOc.cg (h : BOc A X s) (e : ∀ d, X d → cAm A d = cAm A2 d) : BOc A2 X s := fun S hS => by
  rcases h S hS with z | ⟨c, a, b, f, g, k⟩
  · exact .inl z
  · exact .inr ⟨c, a, b, by rw [f, e c a], g, fun d hd hs => (btr_cg (e c a) (e d hd)).mp (k d hd hs)⟩
theorem WN.cg {row : Nat → Int32} (h : WN A X row) (e : ∀ d, X d → cAm A d = cAm A2 d) : WN A2 X row := by
  obtain ⟨c, a, b, f⟩ := h
  exact ⟨c, a, fun d hd => (btr_cg (e c a) (e d hd)).mp (b d hd), f⟩
theorem WW.cg {row : Nat → Int32} (h : WW A X row) (e : ∀ d, X d → cAm A d = cAm A2 d) : WW A2 X row := by
  obtain ⟨b, hb, hr⟩ := h
  refine ⟨b, fun S hS => ⟨fun d hd hs => by rw [← e d hd]; exact (hb S hS).1 d hd hs, (hb S hS).2.elim .inl fun ⟨c, x1, x2, x3⟩ => .inr ⟨c, x1, x2, by rw [← e c x1]; exact x3⟩⟩, hr⟩
theorem cOk_0 : cOk pk (fun _ => 0) := fun _ _ => Nat.zero_le _
theorem cTk_0 {r : Nat} : cTk D r (fun _ => 0) = 0 := nsum_z fun _ _ => if_pos rfl
theorem cTg_0 {r g : Nat} : cTg D gr g r (fun _ => 0) = 0 := nsum_z fun j _ => by
  unfold cGd cDg
  rw [if_pos rfl]
  split <;> rfl
theorem cSp_0 : cSp (fun _ => 0) = 0 := nsum_z fun _ _ => if_pos rfl
theorem cAm_0 : cAm A (fun _ => 0) = 0 := nsum_z fun _ _ => if_pos rfl
theorem cFe_0 : cFe D gr q cap R (fun _ => 0) := fun r _ => ⟨by rw [cTk_0]; exact Nat.zero_le _, fun g _ => by rw [cTg_0]; exact Nat.zero_le _⟩
theorem SC0.scc (h : SC0 s) (hR5 : R ≤ 5) : SCc D gr R (fun _ => 0) s := ⟨fun j hj => h.1 j hj, fun r hr => by rw [h.2.1 r (by omega), cTk_0]; rfl, fun g hg r hr => by rw [h.2.2 g hg r (by omega), cTg_0]; rfl⟩
/-- at rest again: beyond the regions nothing was touched -/
theorem SC0.back (h : SCc D gr R (fun _ => 0) s) (h2 : ∀ r, R ≤ r → r < 5 → s 1044 r = 0 ∧ ∀ g, g < 4 → s (1121 + g) r = 0) : SC0 s := by
  refine ⟨fun j hj => h.1 j hj, fun r hr => ?_, fun g hg r hr => ?_⟩
  · rcases Nat.lt_or_ge r R with l | l
    · rw [h.2.1 r l, cTk_0]
      rfl
    · exact (h2 r l hr).1
  · rcases Nat.lt_or_ge r R with l | l
    · rw [h.2.2 g hg r l, cTg_0]
      rfl
    · exact (h2 r l hr).2 g hg
end
/-! beyond the regions the search touches nothing -/
def hiR (R : Nat) (s s2 : XS9) : Prop := ∀ q, (q = 1044 ∨ (1121 ≤ q ∧ q ≤ 1124)) → ∀ r, R ≤ r → s2 q r = s q r
section
variable {s s2 s3 : XS9} {R B i k : Nat} {gr cnt : Nat → Nat} {x y : Int32}
theorem hiR.rfl' : hiR R s s := fun _ _ _ _ => rfl
theorem hiR.trans (h : hiR R s s2) (h2 : hiR R s2 s3) : hiR R s s3 := fun q hq r hr => (h2 q hq r hr).trans (h q hq r hr)
theorem hiR.rows (e : ∀ q, (q = 1044 ∨ (1121 ≤ q ∧ q ≤ 1124)) → s2 q = s q) : hiR R s s2 := fun q hq r _ => by rw [e q hq]
theorem hiR.moved : hiR R s (g_moveTaken s i x y R gr) := by
  unfold g_moveTaken x_moveTaken_19
  refine xit_inv (fun p : XS9 × Int32 => hiR R s p.1) (N := R) (fun k p hk hP => ?_) R 0 (s, x) (Nat.zero_add _) hiR.rfl'
  intro q hq r hr
  show u2 (u2 p.1 1044 k _) (1121 + gr i) k _ q r = s q r
  rw [u2_sl (by omega), u2_sl (by omega)]
  exact hP q hq r hr
theorem hiR.take : hiR R s (g_take s i k R gr) := (hiR.rows (s := s) (s2 := u2 s 1043 i (nI k)) fun q hq => u2_ne (by omega)).trans hiR.moved
theorem hiR.back : hiR R s (g_giveBack s i k R gr) := (hiR.rows (s := s) (s2 := u2 s 1043 i (-1)) fun q hq => u2_ne (by omega)).trans hiR.moved
theorem hiR.keep {S : Nat} (hS : S < 64) : hiR R s (g_keepIfBetter s S x) := hiR.rows fun q hq => fr_keepIfBetter (by omega)
theorem hiR.pick {fx : Nat} : ∀ (f i : Nat), i + f = 6 → ∀ (s : XS9) (S : Nat) (x : Int32), S < 64 → hiR R s (g_pickFrom fx R B gr cnt f i s S x)
  | 0, i, e, s, S, x, hS => hiR.keep hS
  | f + 1, i, e, s, S, x, hS => by
    show hiR R s (g_pickStep s (fun σ S x => g_pickFrom fx R B gr cnt f (i + 1) σ S x) i fx S x R B gr cnt)
    unfold g_pickStep
    split
    · exact hiR.keep hS
    · split
      · exact hiR.pick f (i + 1) (by omega) s S x hS
      · unfold x_pickStep_45
        refine xit_inv (fun s2 : XS9 => hiR R s s2) (N := cnt i) (fun k s2 hk hP => ?_) (cnt i) 0 _ (Nat.zero_add _) (hiR.pick f (i + 1) (by omega) s S x hS)
        (try dsimp only)
        split
        · exact hP
        · exact ((hP.trans hiR.take).trans (hiR.pick f (i + 1) (by omega) _ (S ||| 2 ^ i) _ (or_bit_lt hS (by omega)))).trans hiR.back
end
