/-! raid (3) -/
theorem bset_sub {Y W : Nat → Bool} : B6 (fun x => Y x && !W x) = 0 ↔ ∀ x, x < 6 → Y x = true → W x = true := by
  rw [B6_z6]
  constructor
  · intro h x hx e
    have := h x hx
    rw [e, Bool.true_and] at this
    cases e2 : W x with
    | true => rfl
    | false => rw [e2] at this; exact (nomatch this)
  · intro h x hx
    cases e : Y x with
    | false => rfl
    | true => rw [h x hx e]; rfl
theorem c6_diff {Y W : Nat → Bool} (h : ∀ x, x < 6 → Y x = true → W x = true) : c6 (fun x => W x && !Y x) + c6 Y = c6 W := by
  rw [← c6_add (fun x _ => by cases Y x <;> simp)]
  refine c6_congr (fun x hx => ?_)
  cases e : Y x with
  | false => simp
  | true => rw [h x hx e]; rfl
section R3
variable {scr : Option (List Int32)} {P : ba_P} {w : ba_W} {f : Nat → Nat → Int32} {l : Nat → List Int32} {q : List (List Int32)}
end R3
