/-! war: the reference's reading of people, of the whole -/
def kd2 (c : Int32) : Int32 := if c = 112 then 0 else if c = 99 then 1 else 2
theorem kd_kd2 {c : Int32} (h : ¬ kd c = -9) : kd c = kd2 c := by
  unfold kd at h ⊢
  unfold kd2
  by_cases h1 : c = 112
  · rw [if_pos h1, if_pos h1]
  · rw [if_neg h1] at h ⊢
    rw [if_neg h1]
    by_cases h2 : c = 99
    · rw [if_pos h2, if_pos h2]
    · rw [if_neg h2] at h ⊢
      rw [if_neg h2]
      by_cases h3 : c = 103
      · rw [if_pos h3]
      · rw [if_neg h3] at h
        exact absurd rfl h
def perC (C : Nat → Int32) (L : Nat → List Int32) (p : Nat) : Prop := ∀ j, j < p → (L 51).getD j 0 = kd (C (17 + 5 * j + 1)) ∧ (L 52).getD j 0 = dv (C (17 + 5 * j + 2)) ∧ (L 53).getD j 0 = dv (C (17 + 5 * j + 3)) ∧ (L 54).getD j 0 = dv (C (17 + 5 * j + 4))
section WD
variable {scr : Option (List Int32)} {P : ba_P} {w : ba_W} {f : Nat → Nat → Int32} {l : Nat → List Int32} {q : List (List Int32)}
variable {F : Nat → Nat → Int32} {L : Nat → List Int32}
end WD
