/-! method by method: the class's answer is the reference's (4) -/
section B4
variable {scr : Option (List Int32)} {P : ba_P} {w : ba_W} {f : Nat → Nat → Int32} {l : Nat → List Int32} {q : List (List Int32)}
theorem three {m : Int32} (h1 : 0 ≤ m.toInt) (h2 : m.toInt ≤ 2) : m = 0 ∨ m = 1 ∨ m = 2 := by
  simp only [eq_i]
  have e0 : (0 : Int32).toInt = 0 := rfl
  have e1 : (1 : Int32).toInt = 1 := rfl
  have e2 : (2 : Int32).toInt = 2 := rfl
  omega
theorem tk_i {k n : Int32} (hk : 0 ≤ k.toInt ∧ k.toInt ≤ 2) (hn : 0 ≤ n.toInt ∧ n.toInt ≤ 9) : 0 ≤ (tk k n).toInt ∧ (tk k n).toInt ≤ 20 := by
  have e1 : (1 : Int32).toInt = 1 := rfl
  have e2 : (2 : Int32).toInt = 2 := rfl
  have a : (n + 1).toInt = n.toInt + 1 := by rw [fb_addI (by rw [e1]; omega) (by rw [e1]; omega), e1]
  have b : (2 * (n + 1)).toInt = 2 * (n.toInt + 1) := by rw [fb_mulI (by rw [e2, a]; omega) (by rw [e2, a]; omega), e2, a]
  unfold tk
  split
  · omega
  · split
    · omega
    · omega
theorem rl_i {L : List Int32} {m s : Int32} (h : rv L) (h1 : 0 ≤ m.toInt) (h2 : m.toInt ≤ 3) (h3 : 0 ≤ s.toInt) (h4 : s.toInt ≤ 2) : 0 ≤ (rl L m s).toInt ∧ (rl L m s).toInt ≤ 3 := by
  have hi := idx3 h1 h2 h3 h4
  exact h _ (by have := ix_i (x := m * 3 + s) (by omega); omega)
end B4
