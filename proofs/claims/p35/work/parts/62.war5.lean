/-! war: what the reference takes over; the worlds fit behind it -/
theorem listx {n : Nat} {A B : List Int32} (hA : A.length = n) (hB : B.length = n) (h : ∀ p, p < n → A.getD p 0 = B.getD p 0) : A = B := by
  apply List.ext_getElem?
  intro j
  by_cases hj : j < n
  · have := h j hj
    rw [List.getD_eq_getElem?_getD, List.getD_eq_getElem?_getD, List.getElem?_eq_getElem (by omega), List.getElem?_eq_getElem (by omega)] at this
    rw [List.getElem?_eq_getElem (by omega), List.getElem?_eq_getElem (by omega)]
    exact congrArg some this
  · rw [List.getElem?_eq_none (by omega), List.getElem?_eq_none (by omega)]
section WE
variable {scr : Option (List Int32)} {P : ba_P} {w : ba_W} {f : Nat → Nat → Int32} {l : Nat → List Int32} {q : List (List Int32)}
variable {F : Nat → Nat → Int32} {L G : Nat → List Int32}
theorem kd_i {c : Int32} (h : ¬ kd c = -9) : 0 ≤ (kd c).toInt ∧ (kd c).toInt ≤ 2 := by
  rw [kd_kd2 h]
  unfold kd2
  by_cases h1 : c = 112
  · rw [if_pos h1]; decide
  · rw [if_neg h1]
    by_cases h2 : c = 99
    · rw [if_pos h2]; decide
    · rw [if_neg h2]; decide
theorem ik_i {C : Nat → Int32} {o : Nat} (h1 : dg 9 (C (1 + 2 * o)) = true) (h2 : dg 9 (C (2 + 2 * o)) = true) : 0 ≤ (ik C o).toInt ∧ (ik C o).toInt ≤ 99 := by
  have d1 := (dg_v (by decide) (by decide)).mpr h1
  have d2 := (dg_v (by decide) (by decide)).mpr h2
  have e10 : (10 : Int32).toInt = 10 := rfl
  have e1 : (10 * dv (C (1 + 2 * o))).toInt = 10 * (dv (C (1 + 2 * o))).toInt := by rw [fb_mulI (by rw [e10]; omega) (by rw [e10]; omega), e10]
  unfold ik
  rw [fb_addI (by rw [e1]; omega) (by rw [e1]; omega), e1]
  omega
end WE
