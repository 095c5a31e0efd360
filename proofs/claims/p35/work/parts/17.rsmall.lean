/-! the small methods of the reference -/
theorem l64 {x : Int32} : x.toInt64.toInt = x.toInt := Int32.toInt_toInt64 x
section SR
variable {scr : Option (List Int32)} {P : ba_P} {w : ba_W} {f : Nat → Nat → Int32} {l : Nat → List Int32} {q : List (List Int32)}
end SR
