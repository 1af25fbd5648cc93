/-! the start -/
section
variable {args : Array Value} {s : State}
/-- the heap that was there: what the run reads of it, by names under 1000 -/
def h0S (L : Nat) (xs : Nat → Int32) : XH := fun r => if 200 ≤ r ∧ r < 456 then some (2, 1, fun _ => .int (nI (r - 200) - 128)) else match r with
  | 0 => some (104, 0, fun _ => .null)
  | 1 => some (105, 256, fun j => .ref (200 + j))
  | 3 => some (300, 0, fun _ => .null)
  | 4 => some (102, 100, fun j => .int (stDg j))
  | 5 => some (0, 4, vp_V [.ref 8, .int 0, .int 0, .int 0])
  | 6 => some (0, 4, vp_V [.ref 9, .int 0, .int 0, .int 0])
  | 7 => some (0, 4, vp_V [.ref 10, .int 0, .int 0, .int 0])
  | 8 => some (102, 1, fun _ => .int 44)
  | 9 => some (102, 0, fun _ => .int 0)
  | 10 => some (102, 1, fun _ => .int 45)
  | 11 => some (100, L, fun j => .int (xs j))
  | _ => none
def stE (ad : Nat → Nat) (a0 a1 a3 a4 a5 a6 a7 a8 a9 a10 a11 : Nat) : Nat → Nat := fun r => if 200 ≤ r then ad (r - 200) else match r with
  | 0 => a0
  | 1 => a1
  | 3 => a3
  | 4 => a4
  | 5 => a5
  | 6 => a6
  | 7 => a7
  | 8 => a8
  | 9 => a9
  | 10 => a10
  | _ => a11
theorem h0S_cases {L : Nat} {xs : Nat → Int32} {r : Nat} {c : XC} (e : h0S L xs r = some c) : (∃ j, j < 256 ∧ r = 200 + j ∧ c = (2, 1, fun _ => .int (nI j - 128))) ∨ (r = 0 ∧ c = (104, 0, fun _ => .null)) ∨ (r = 1 ∧ c = (105, 256, fun j => .ref (200 + j))) ∨ (r = 3 ∧ c = (300, 0, fun _ => .null)) ∨ (r = 4 ∧ c = (102, 100, fun j => .int (stDg j))) ∨
    (r = 5 ∧ c = (0, 4, vp_V [.ref 8, .int 0, .int 0, .int 0])) ∨ (r = 6 ∧ c = (0, 4, vp_V [.ref 9, .int 0, .int 0, .int 0])) ∨ (r = 7 ∧ c = (0, 4, vp_V [.ref 10, .int 0, .int 0, .int 0])) ∨ (r = 8 ∧ c = (102, 1, fun _ => .int 44)) ∨ (r = 9 ∧ c = (102, 0, fun _ => .int 0)) ∨ (r = 10 ∧ c = (102, 1, fun _ => .int 45)) ∨ (r = 11 ∧ c = (100, L, fun j => .int (xs j))) := by
  unfold h0S at e
  split at e
  · rename_i q
    exact .inl ⟨r - 200, by omega, by omega, (Option.some.inj e).symm⟩
  · right
    split at e <;> first | (cases e; simp) | (cases e)
end
