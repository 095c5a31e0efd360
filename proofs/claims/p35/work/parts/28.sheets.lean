/-! sheets: how the invariant is kept -/
section SH
variable {scr : Option (List Int32)} {P : ba_P} {w : ba_W} {f : Nat → Nat → Int32} {l : Nat → List Int32} {q : List (List Int32)}
theorem u2_congr {F G : Nat → Nat → Int32} {i j : Nat} {v : Int32} {x y : Nat} (h : F x y = G x y) : u2 F i j v x y = u2 G i j v x y := by
  unfold u2
  rw [h]
theorem u2_eq {F : Nat → Nat → Int32} {i j : Nat} {v : Int32} : u2 F i j v i j = v := by
  unfold u2
  rw [Nat.beq_refl, Nat.beq_refl]
  rfl
theorem u2_nj {F : Nat → Nat → Int32} {i j x y : Nat} {v : Int32} (h : ¬ y = j) : u2 F i j v x y = F x y := by
  unfold u2
  rw [show Nat.beq y j = false from by cases h2 : Nat.beq y j with | false => rfl | true => exact absurd (Nat.eq_of_beq_eq_true h2) h]
  cases Nat.beq x i <;> rfl
theorem u1_eq {α : Type} {L : Nat → α} {i : Nat} {v : α} : u1 L i v i = v := by
  unfold u1
  rw [Nat.beq_refl]
  rfl
theorem u1_ne {α : Type} {L : Nat → α} {i x : Nat} {v : α} (h : ¬ x = i) : u1 L i v x = L x := by
  unfold u1
  rw [show Nat.beq x i = false from by cases h2 : Nat.beq x i with | false => rfl | true => exact absurd (Nat.eq_of_beq_eq_true h2) h]
  rfl
theorem m1_i : (-1 : Int32).toInt = -1 := rfl
end SH
