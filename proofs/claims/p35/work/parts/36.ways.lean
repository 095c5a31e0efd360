/-! ways -/
section WY
variable {scr : Option (List Int32)} {P : ba_P} {w : ba_W} {f : Nat → Nat → Int32} {l : Nat → List Int32} {q : List (List Int32)}
theorem nI_ex {x : Int32} (h : 0 ≤ x.toInt) : ∃ a : Nat, x = nI a ∧ (a : Int) = x.toInt := by
  have := ix_i h
  have := fb_rng x
  exact ⟨x.toNatClampNeg, by rw [eq_i, nI_toInt (by omega)]; omega, by omega⟩
theorem ss_one {g : Nat → Nat} {b : Nat} (hb : b < 4) : ss (fun i => if i = b then 1 else 0) g 4 = g b := by
  match b, hb with
  | 0, _ => simp [ss]
  | 1, _ => simp [ss]
  | 2, _ => simp [ss]
  | 3, _ => simp [ss]
end WY
