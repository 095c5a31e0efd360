/-! cell, put -/
section CE
variable {scr : Option (List Int32)} {P : ba_P} {w : ba_W} {f : Nat → Nat → Int32} {l : Nat → List Int32} {q : List (List Int32)}
theorem uf2 {f : Nat → Nat → Int32} {x y : Int32} : u2 (u2 f 42 0 x) 42 0 y = u2 f 42 0 y := by
  funext a b
  unfold u2
  cases Nat.beq a 42 <;> cases Nat.beq b 0 <;> rfl
theorem svf {lane size sz ln : Int32} {C big : List Int32} {off : Nat} (h : sv lane size sz ln C big off) : (sz.toInt < 0 ↔ lane = -1) ∧ (¬ lane = -1 → sz = size ∧ ln = lane) := by
  constructor
  · constructor
    · intro g
      by_cases q0 : lane = -1
      · exact q0
      · exfalso
        rw [(h.2.2.2 q0).1] at g
        have := h.2.1.1
        omega
    · intro g
      rw [(h.2.2.1 g).1, m1_i]
      omega
  · intro g
    exact ⟨(h.2.2.2 g).1, (h.2.2.2 g).2.1⟩
theorem ix60 {k i : Int32} (h1 : 0 ≤ k.toInt) (h2 : k.toInt ≤ 3) (h3 : 0 ≤ i.toInt) (h4 : i.toInt < 60) : (60 * k + i).toInt = 60 * k.toInt + i.toInt ∧ (60 * k + i).toNatClampNeg = 60 * k.toNatClampNeg + i.toNatClampNeg := by
  have e : (60 : Int32).toInt = 60 := rfl
  have e1 : (60 * k).toInt = 60 * k.toInt := by rw [fb_mulI (by rw [e]; omega) (by rw [e]; omega), e]
  have e2 : (60 * k + i).toInt = 60 * k.toInt + i.toInt := by rw [fb_addI (by rw [e1]; omega) (by rw [e1]; omega), e1]
  refine ⟨e2, ?_⟩
  have := ix_i h1
  have := ix_i h3
  have := ix_i (x := 60 * k + i) (by omega)
  omega
end CE
