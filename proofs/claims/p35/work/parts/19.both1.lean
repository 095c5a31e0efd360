/-! method by method: the class's answer is the reference's (1) -/
section B1
variable {scr : Option (List Int32)} {P : ba_P} {w : ba_W} {f : Nat → Nat → Int32} {l : Nat → List Int32} {q : List (List Int32)}
theorem zi : (0 : Int32).toInt = 0 := rfl
end B1
