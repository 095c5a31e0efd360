/-! method by method: the class's answer is the reference's (8) -/
section B8
variable {scr : Option (List Int32)} {P : ba_P} {w : ba_W} {f : Nat → Nat → Int32} {l : Nat → List Int32} {q : List (List Int32)}
theorem uf {f : Nat → Nat → Int32} {x y : Int32} : u2 (u2 f 0 6 x) 0 6 y = u2 f 0 6 y := by
  funext a b
  unfold u2
  cases Nat.beq a 0 <;> cases Nat.beq b 6 <;> rfl
end B8
