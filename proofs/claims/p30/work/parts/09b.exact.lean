/-! ===== contracts whose end is known exactly ===== -/
def XEx (l : Launch) (M : XM) (d k n : Nat) (as : List Value) (h : XH) (v : Option Value) (h2 : XH) : Prop := XMet l M d k n as h (fun o g => o = .inl v ∧ g = h2)
theorem XMet.imp {l : Launch} {M : XM} {d k n : Nat} {as : List Value} {h : XH} {Q Q2 : XO → XH → Prop} (hQ : ∀ o g, Q o g → Q2 o g) (hM : XMet l M d k n as h Q) : XMet l M d k n as h Q2 := by
  intro D ρ ow p e a1 a2 a3 s m args below b1 b2 b3 b4
  obtain ⟨nn, o, c1, c2, c3, c4⟩ := hM D ρ ow p e a1 a2 a3 s m args below b1 b2 b3 b4
  refine ⟨nn, o, c1, c2, c3, ?_⟩
  rcases c4 with ⟨⟨v, h', ρ', ow', e1, q, r⟩, z⟩ | ⟨q9, e1, E, ce, L, ⟨h', ρ', ow', q, r⟩, z⟩
  · exact Or.inl ⟨⟨v, h', ρ', ow', e1, hQ _ _ q, r⟩, z⟩
  · exact Or.inr ⟨q9, e1, E, ce, L, ⟨h', ρ', ow', hQ _ _ q, r⟩, z⟩
section
variable {Y : XY} {M : XM} {l : Launch} {d k n : Nat} {h : XH} {pc : Nat} {ls st : List Value}
theorem sw_callVx {M' : XM} {d' k' n' idx ci N b : Nat} {f : Nat → Value} {C : String} {T : u_T} {ty : Nat → FieldType} {as stk : List Value} {v : Option Value} {h2 : XH} (O : xx_O Y M l d) (hM : XEx l M' d' k' n' (.ref b :: as) h v h2) (E : xx_ce M') (hl : xx_ml M.2.2.2.2.1 idx M'.1) (hsel : Cond.instanceMethod M'.1 ∈ xx_gws ∧ Cond.selects M'.1.cls M'.1 M'.1 ∈ xx_gws)
    (K : xx_cl ci C T N ty) (hC : C = M'.1.cls) (hb : h b = some (ci, N, f)) (hd : decode M.2.1 pc = .ok (.invokevirtual idx, 3)) (hdd : d' + 1 ≤ d) (hn : as.length = M'.2.2.2.2.2) (hs : stk = as.reverse ++ .ref b :: st) (hc : (st.map fun v => v.category).sum ≤ 8)
    {st2 : List Value} (h2s : v.toList ++ st = st2) (kk : SW Y k n h2 (pc + 3) ls st2) : SW Y (k + k') (n + n') h pc ls stk :=
  sw_callV O hM E hl hsel K hC hb hd hdd hn hs hc (fun v' h' q _ => by obtain ⟨e1, rfl⟩ := q; cases e1; rw [h2s]; exact kk) (fun E h' q => by obtain ⟨e1, -⟩ := q; cases e1)
theorem sw_callSx {M' : XM} {d' k' n' idx : Nat} {as stk : List Value} {v : Option Value} {h2 : XH} (O : xx_O Y M l d) (hM : XEx l M' d' k' n' as h v h2) (E : xx_ce M') (hl : xx_ml M.2.2.2.2.1 idx M'.1) (hst0 : Cond.static M'.1 ∈ xx_gws)
    (hd : decode M.2.1 pc = .ok (.invokestatic idx, 3)) (hdd : d' + 1 ≤ d) (hn : as.length = M'.2.2.2.2.2) (hs : stk = as.reverse ++ st) (hc : (st.map fun v => v.category).sum ≤ 8)
    {st2 : List Value} (h2s : v.toList ++ st = st2) (kk : SW Y k n h2 (pc + 3) ls st2) : SW Y (k + k') (n + n') h pc ls stk :=
  sw_callS O hM E hl hst0 hd hdd hn hs hc (fun v' h' q _ => by obtain ⟨e1, rfl⟩ := q; cases e1; rw [h2s]; exact kk) (fun E h' q => by obtain ⟨e1, -⟩ := q; cases e1)
theorem sw_callIx {M' : XM} {d' k' n' idx b : Nat} {as stk : List Value} {v : Option Value} {h2 : XH} (O : xx_O Y M l d) (hM : XEx l M' d' k' n' (.ref b :: as) h v h2) (E : xx_ce M') (hl : xx_ml M.2.2.2.2.1 idx M'.1) (hi : M'.1.name = "<init>" ∧ M'.2.2.2.1 = none ∧ Cond.instanceMethod M'.1 ∈ xx_gws)
    (hd : decode M.2.1 pc = .ok (.invokespecial idx, 3)) (hdd : d' + 1 ≤ d) (hn : as.length = M'.2.2.2.2.2) (hs : stk = as.reverse ++ .ref b :: st) (hc : (st.map fun v => v.category).sum ≤ 8)
    {st2 : List Value} (h2s : v.toList ++ st = st2) (kk : SW Y k n h2 (pc + 3) ls st2) : SW Y (k + k') (n + n') h pc ls stk :=
  sw_callI O hM E hl hi hd hdd hn hs hc (fun v' h' q _ => by obtain ⟨e1, rfl⟩ := q; cases e1; rw [h2s]; exact kk) (fun E h' q => by obtain ⟨e1, -⟩ := q; cases e1)
end
