/-! peace (3) -/
section P3
variable {scr : Option (List Int32)} {P : ba_P} {w : ba_W} {f : Nat → Nat → Int32} {l : Nat → List Int32} {q : List (List Int32)}
theorem wo_n {f : Nat → Nat → Int32} {n : Nat} {o : Int32} : ∀ x, n ≤ x → wo f 2 n o x = false := fun x hx => by
  unfold wo pe
  rw [decide_eq_false (show ¬ x < n by omega), Bool.false_and, Bool.false_and]
end P3
