/-! ===== what was made and dropped leaves the memory as it was ===== -/
theorem setM_same {z : Int64} {σ τ : XS9} {h : XH} (e : mem_eq σ τ) (h1 : ∀ q, (q < 8000 ∨ 9010 ≤ q) → (q < 20000 ∨ 20010 ≤ q) → τ q = σ q) : setM z τ h = setM z σ h := by
  funext r
  unfold setM
  rw [e.lq]
  by_cases a : (r < 8000 ∨ 9010 ≤ r) ∧ (r < 20000 ∨ 20010 ≤ r)
  · rw [h1 r a.1 a.2]
  · have N : ∀ s, lyQ z (ctl σ) r s = none := fun s => by
      by_cases b : r < 9000
      · obtain ⟨i, rfl⟩ : ∃ i, r = 8000 + i := ⟨r - 8000, by omega⟩
        exact noq_K (.inr rfl) e.2.1.2.2 (by omega) s
      · by_cases c : r < 9010
        · have e9 : ctl σ 9000 20 = 0 := e.2.1.1.2
          unfold lyQ
          rw [if_neg (by omega), if_neg (by omega), if_neg (by omega), if_neg (by omega), if_neg (by omega), if_neg (by omega), if_neg (by omega), if_neg (by omega), if_neg (by omega), if_neg (by omega), if_neg (by omega), if_neg (by omega), if_neg (by omega), if_neg (by omega), if_pos c, if_pos e9]
        · have hq : 20000 ≤ r ∧ r < 20010 := by omega
          have e8 : ctl σ r 20 = 0 := (ctl_at (by rw [tmpCtl hq]; rfl)).trans (e.2.2 r hq.1 hq.2).2
          rw [lq_tmp hq, if_pos e8]
    rw [N, N]
theorem ct_isLogged {l : Launch} {h : XH} (hl : l.stackTraces = false) {z : Int64} {σ : XS9} (hbs : xx_bs h) (hfr : ∀ r, 5000 ≤ r → r < 20010 → h r = none) (hme : mem_eq σ σ) {R : Nat} (hR : σ 5001 900 = nI R) (hR5 : R ≤ 5) {B : Nat} (hB : σ 5002 900 = nI B) (hB6 : B ≤ 6) {K : Nat} (hK : σ 5003 900 = nI K) (hK60 : K ≤ 60) (hf : σ 7000 20 = nI 1) (hf5 : σ 7000 25 = nI 1) {g : Nat} (hg : σ 7000 23 = nI g) (hg1 : g < 200) {w : Nat} (hw : σ 7000 24 = nI w) (hw1 : w < 200) {GA : Nat → XS9 → Prop} (ha : AH GA σ (-1) 0 0 0 R B K) : XEx l m_X14_isLogged 11 490 8638 [.ref 5000] (setM z σ h) (some (.int (f_MisLogged σ R B K))) (setM z σ h) := by
  have t := ct_X14_isLogged hl (z := z) (σ := σ) hbs hfr hme hR hR5 hB hB6 hK hK60 hf hf5 hg hg1 hw hw1 ha
  obtain ⟨m9, hm9, hc9⟩ := anew_out hK60 ha
  rwa [setM_same (σ := σ) (τ := u2 (g_MrunAnew σ (-1) 0 0 0 R B K) 8000 20 0) (mem_eq.frame8 (τ0 := σ) hme (fun q h9 => by rw [u2_ne (by omega)]; exact hc9.2.2.2.2.2 q h9) u2_v) (fun q h1 h2 => by
    rcases h1 with h1 | h1
    · rw [u2_ne (by omega)]; exact hc9.2.2.2.2.2 q (.inl h1)
    · rw [u2_ne (by omega)]; exact hc9.2.2.2.2.2 q (.inr (by omega)))] at t
theorem mem_same0 {σ : XS9} (hme : mem_eq σ σ) : mem_eq (u2 σ 5000 0 0) (u2 σ 5000 0 0) := by
  refine ⟨fun _ _ _ _ _ => rfl, ⟨⟨?_, ?_⟩, ?_, ?_⟩, fun q a b => ?_⟩
  · rw [u2_ne (by omega)]; exact hme.2.1.1.1
  · rw [u2_ne (by omega)]; exact hme.2.1.1.1
  · rw [u2_ne (by omega)]; exact hme.2.1.2.1
  · rw [u2_ne (by omega)]; exact hme.2.1.2.1
  · rw [u2_ne (by omega)]; exact hme.2.2 q a b
def t_anew (x y v u : Int32) (R B K : Nat) : Int32 := if n_rd x K then (if n_lt y B then (if n_lt v R then (if n_bt u 0 5 then 0 else 2) else 1) else 1) else 1
theorem ct_anew {l : Launch} {h : XH} (hl : l.stackTraces = false) {z : Int64} {σ : XS9} (hbs : xx_bs h) (hfr : ∀ r, 5000 ≤ r → r < 20010 → h r = none) (hme : mem_eq σ σ) {R : Nat} (hR : σ 5001 900 = nI R) (hR5 : R ≤ 5) {B : Nat} (hB : σ 5002 900 = nI B) (hB6 : B ≤ 6) {K : Nat} (hK : σ 5003 900 = nI K) (hK60 : K ≤ 60) {x y v u : Int32} {GA : Nat → XS9 → Prop} (ha9 : n_rd x K → n_lt y B → n_lt v R → n_bt u 0 5 → AH GA (u2 σ 5000 0 0) (nI (rn x + 1)) (cn y) (cn v) u R B K) : XEx l m_X14_anew 11 490 8638 [.ref 5000, .int x, .int y, .int v, .int u] (setM z σ h) (some (.int (f_Manew σ x y v u R B K))) (setM z (u2 (u2 σ 5000 0 0) 5000 0 (t_anew x y v u R B K)) h) := by
  have t := ct_X14_anew hl (z := z) (σ := σ) hbs hfr hme hR hR5 hB hB6 hK hK60 ha9
  have e0 : u2 (u2 σ 5000 0 0) 5000 0 0 = u2 σ 5000 0 0 := by
    funext q i
    by_cases a : q = 5000
    · rw [a]
      by_cases b : i = 0
      · rw [b, u2_v, u2_v]
      · rw [u2_nj b]
    · rw [u2_ne a]
  unfold g_Manew at t
  unfold t_anew
  by_cases a1 : n_rd x K
  · by_cases a2 : n_lt y B
    · by_cases a3 : n_lt v R
      · by_cases a4 : n_bt u 0 5
        · have ha := ha9 a1 a2 a3 a4
          obtain ⟨m9, hm9, hc9⟩ := anew_out hK60 ha
          have e : setM z (u2 (g_MrunAnew (u2 σ 5000 0 0) (nI (rn x + 1)) (cn y) (cn v) u R B K) 8000 20 0) h = setM z (u2 σ 5000 0 0) h := setM_same (σ := u2 σ 5000 0 0) (mem_eq.frame8 (τ0 := u2 σ 5000 0 0) (mem_same0 hme) (fun q h9 => by rw [u2_ne (by omega)]; exact hc9.2.2.2.2.2 q h9) u2_v) (fun q h1 h2 => by
            rcases h1 with h1 | h1
            · rw [u2_ne (by omega)]; exact hc9.2.2.2.2.2 q (.inl h1)
            · rw [u2_ne (by omega)]; exact hc9.2.2.2.2.2 q (.inr (by omega)))
          rw [if_pos a1, if_pos a2, if_pos a3, if_pos a4, e] at t
          rw [if_pos a1, if_pos a2, if_pos a3, if_pos a4, e0]
          exact t
        · rw [if_pos a1, if_pos a2, if_pos a3, if_neg a4] at t
          rw [if_pos a1, if_pos a2, if_pos a3, if_neg a4]
          exact t
      · rw [if_pos a1, if_pos a2, if_neg a3] at t
        rw [if_pos a1, if_pos a2, if_neg a3]
        exact t
    · rw [if_pos a1, if_neg a2] at t
      rw [if_pos a1, if_neg a2]
      exact t
  · rw [if_neg a1] at t
    rw [if_neg a1]
    exact t
