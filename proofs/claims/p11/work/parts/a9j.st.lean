/-! the start -/
section
variable {args : Array Value} {s : State}
theorem h0S_hi {L : Nat} {xs : Nat → Int32} {r : Nat} (h1 : 1000 ≤ r) : h0S L xs r = none := by
  cases e : h0S L xs r with
  | none => rfl
  | some c =>
    rcases h0S_cases e with ⟨j, hj, rfl, -⟩ | ⟨rfl, -⟩ | ⟨rfl, -⟩ | ⟨rfl, -⟩ | ⟨rfl, -⟩ | ⟨rfl, -⟩ | ⟨rfl, -⟩ | ⟨rfl, -⟩ | ⟨rfl, -⟩ | ⟨rfl, -⟩ | ⟨rfl, -⟩ | ⟨rfl, -⟩ <;> omega
theorem h0S_int {L : Nat} {xs : Nat → Int32} {j : Nat} (hj : j < 256) : h0S L xs (200 + j) = some (2, 1, fun _ => .int (nI j - 128)) := by
  unfold h0S
  rw [if_pos ⟨by omega, by omega⟩, Nat.add_sub_cancel_left]
theorem h0S_cls {L : Nat} {xs : Nat → Int32} : xx_cls (h0S L xs) := by
  intro r c j e hj
  rcases h0S_cases e with ⟨k, hk, rfl, rfl⟩ | ⟨rfl, rfl⟩ | ⟨rfl, rfl⟩ | ⟨rfl, rfl⟩ | ⟨rfl, rfl⟩ | ⟨rfl, rfl⟩ | ⟨rfl, rfl⟩ | ⟨rfl, rfl⟩ | ⟨rfl, rfl⟩ | ⟨rfl, rfl⟩ | ⟨rfl, rfl⟩ | ⟨rfl, rfl⟩
  · exact trivial
  · exact trivial
  · show (h0S L xs (200 + j)).isSome = true
    rw [h0S_int hj]
    rfl
  · exact trivial
  · exact trivial
  · match j, hj with
    | 0, _ => exact rfl
    | 1, _ => exact trivial
    | 2, _ => exact trivial
    | 3, _ => exact trivial
  · match j, hj with
    | 0, _ => exact rfl
    | 1, _ => exact trivial
    | 2, _ => exact trivial
    | 3, _ => exact trivial
  · match j, hj with
    | 0, _ => exact rfl
    | 1, _ => exact trivial
    | 2, _ => exact trivial
    | 3, _ => exact trivial
  · exact trivial
  · exact trivial
  · exact trivial
  · exact trivial
theorem h0S_ok {L : Nat} {xs : Nat → Int32} : okB (h0S L xs) := by
  refine ⟨⟨⟨_, rfl⟩, ⟨_, rfl⟩, rfl, fun j hj => h0S_int hj, h0S_hi (by decide), h0S_hi (by decide)⟩, ⟨⟨⟨⟨_, rfl, rfl, rfl⟩, rfl, fun j _ => ⟨44, rfl, rfl⟩, by decide⟩, ⟨⟨_, rfl, rfl, rfl⟩, rfl, fun j _ => ⟨0, rfl, rfl⟩, by decide⟩, ⟨⟨_, rfl, rfl, rfl⟩, rfl, fun j _ => ⟨45, rfl, rfl⟩, by decide⟩⟩, ⟨_, rfl, fun x hx => ?_⟩⟩, fun r hr => h0S_hi hr⟩
  show Value.int (stDg x) = _
  unfold stDg
  rw [Nat.mod_eq_of_lt hx]
  rfl
end
