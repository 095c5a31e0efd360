/-! method by method: the class's answer is the reference's (1) -/
section B1
variable {scr : Option (List Int32)} {P : ba_P} {w : ba_W} {f : Nat → Nat → Int32} {l : Nat → List Int32} {q : Nat → List Int64}
theorem both_trace (hI : Inv f l q) : both scr ix_X8_trace ix_X9_trace [some (.ref 1)] [some (.ref 43)] f l q := by
  intro P hP
  obtain ⟨⟨⟨hn1, hn2, hn3⟩, hL, hE, hR⟩, hPp, hD, hM, hS⟩ := id hI
  refine run_X8_trace 10 ?_
  repeat (first | refine And.intro (fun e => absurd e (by decide)) (fun e => ?_) | refine And.intro (fun e => ?_) (fun e => absurd e (by decide)) | refine Exists.intro _ (And.intro rfl ?_) | refine And.intro rfl ?_)
  refine hP _ f l q (fun P2 h2 => ?_)
  refine run_X9_trace 10 ?_
  repeat (first | refine And.intro (fun e => absurd e (by decide)) (fun e => ?_) | refine And.intro (fun e => ?_) (fun e => absurd e (by decide)) | refine Exists.intro _ (And.intro rfl ?_) | refine And.intro rfl ?_)
  have h3 := h2 f l q hI
  rw [← hM.2.2] at h3
  exact h3
theorem both_fault (hI : Inv f l q) : both scr ix_X8_fault ix_X9_fault [some (.ref 1)] [some (.ref 43)] f l q := by
  intro P hP
  obtain ⟨⟨⟨hn1, hn2, hn3⟩, hL, hE, hR⟩, hPp, hD, hM, hS⟩ := id hI
  refine run_X8_fault 10 ?_
  repeat (first | refine And.intro (fun e => absurd e (by decide)) (fun e => ?_) | refine And.intro (fun e => ?_) (fun e => absurd e (by decide)) | refine Exists.intro _ (And.intro rfl ?_) | refine And.intro rfl ?_)
  refine hP _ f l q (fun P2 h2 => ?_)
  refine run_X9_fault 10 ?_
  repeat (first | refine And.intro (fun e => absurd e (by decide)) (fun e => ?_) | refine And.intro (fun e => ?_) (fun e => absurd e (by decide)) | refine Exists.intro _ (And.intro rfl ?_) | refine And.intro rfl ?_)
  have h3 := h2 f l q hI
  rw [← hM.2.1] at h3
  exact h3
theorem zi : (0 : Int32).toInt = 0 := rfl
theorem r_rule {a b : Int32} (hl : (l 44).length = 12) (h3 : (f 42 1).toInt = 0 → P (some (.int (-3))) (wW f l q)) (h2 : ¬ (f 42 1).toInt = 0 → ¬ ((0 ≤ a.toInt ∧ a.toInt ≤ 3) ∧ 0 ≤ b.toInt ∧ b.toInt ≤ 2) → P (some (.int (-2))) (wW f l q)) (h1 : ¬ (f 42 1).toInt = 0 → (0 ≤ a.toInt ∧ a.toInt ≤ 3) → (0 ≤ b.toInt ∧ b.toInt ≤ 2) → P (some (.int (rl (l 44) a b))) (wW f l q)) : ba_go scr ix_X9_rule 0 [some (.ref 43), some (.int a), some (.int b)] [] (wW f l q) 0 0 P := by
  refine run_X9_rule 60 ?_
  repeat (first | refine And.intro (fun e => absurd e (by decide)) (fun e => ?_) | refine And.intro (fun e => ?_) (fun e => absurd e (by decide)) | refine Exists.intro _ (And.intro rfl ?_) | refine And.intro rfl ?_)
  refine And.intro (fun c => ?_) (fun c => ?_)
  · simp only [eq_i, zi] at c
    repeat (first | refine And.intro (fun e => absurd e (by decide)) (fun e => ?_) | refine And.intro (fun e => ?_) (fun e => absurd e (by decide)) | refine Exists.intro _ (And.intro rfl ?_) | refine And.intro rfl ?_)
    refine s_isMark (fun c1 c2 => ?_) (fun c1 => ?_)
    · repeat (first | refine And.intro (fun e => absurd e (by decide)) (fun e => ?_) | refine And.intro (fun e => ?_) (fun e => absurd e (by decide)) | refine Exists.intro _ (And.intro rfl ?_) | refine And.intro rfl ?_)
      refine s_isStamp (fun d1 d2 => ?_) (fun d1 => ?_)
      · repeat (first | refine And.intro (fun e => absurd e (by decide)) (fun e => ?_) | refine And.intro (fun e => ?_) (fun e => absurd e (by decide)) | refine Exists.intro _ (And.intro rfl ?_) | refine And.intro rfl ?_)
        refine r_becomes hl c1 c2 d1 d2 ?_
        exact h1 c ⟨c1, c2⟩ ⟨d1, d2⟩
      · repeat (first | refine And.intro (fun e => absurd e (by decide)) (fun e => ?_) | refine And.intro (fun e => ?_) (fun e => absurd e (by decide)) | refine Exists.intro _ (And.intro rfl ?_) | refine And.intro rfl ?_)
        exact h2 c (fun g => d1 g.2)
    · repeat (first | refine And.intro (fun e => absurd e (by decide)) (fun e => ?_) | refine And.intro (fun e => ?_) (fun e => absurd e (by decide)) | refine Exists.intro _ (And.intro rfl ?_) | refine And.intro rfl ?_)
      exact h2 c (fun g => c1 g.1)
  · simp only [eq_i, zi, Classical.not_not] at c
    exact h3 c
theorem both_rule {a b : Int32} (hI : Inv f l q) : both scr ix_X8_rule ix_X9_rule [some (.ref 1), some (.int a), some (.int b)] [some (.ref 43), some (.int a), some (.int b)] f l q := by
  intro P hP
  obtain ⟨⟨⟨hn1, hn2, hn3⟩, hL, hE, hR⟩, hPp, hD, hM, hS⟩ := id hI
  have hr : ∀ (v : Int32), ((f 2 3).toInt = 0 → v = -3) → (¬ (f 2 3).toInt = 0 → ¬ ((0 ≤ a.toInt ∧ a.toInt ≤ 3) ∧ 0 ≤ b.toInt ∧ b.toInt ≤ 2) → v = -2) → (¬ (f 2 3).toInt = 0 → (0 ≤ a.toInt ∧ a.toInt ≤ 3) → (0 ≤ b.toInt ∧ b.toInt ≤ 2) → v = rl (l 5) a b) → P (some (.int v)) (wW f l q) := by
    intro v g3 g2 g1
    refine hP v f l q (fun P2 h2 => ?_)
    refine r_rule (by rw [hE.1.2]; exact hL.1.2.1) (fun c => ?_) (fun c d => ?_) (fun c d e => ?_)
    · rw [hn3] at c; rw [← g3 c]; exact h2 f l q hI
    · rw [hn3] at c; rw [← g2 c d]; exact h2 f l q hI
    · rw [hn3] at c; rw [hE.1.2, ← g1 c d e]; exact h2 f l q hI
  refine run_X8_rule 60 ?_
  repeat (first | refine And.intro (fun e => absurd e (by decide)) (fun e => ?_) | refine And.intro (fun e => ?_) (fun e => absurd e (by decide)) | refine Exists.intro _ (And.intro rfl ?_) | refine And.intro rfl ?_)
  refine s_isOn (b := 2) (Or.inl rfl) (fun c => ?_) (fun c => ?_)
  · repeat (first | refine And.intro (fun e => absurd e (by decide)) (fun e => ?_) | refine And.intro (fun e => ?_) (fun e => absurd e (by decide)) | refine Exists.intro _ (And.intro rfl ?_) | refine And.intro rfl ?_)
    refine s_below (bi := 4) rfl (fun c1 c2 => ?_) (fun c1 => ?_)
    · repeat (first | refine And.intro (fun e => absurd e (by decide)) (fun e => ?_) | refine And.intro (fun e => ?_) (fun e => absurd e (by decide)) | refine Exists.intro _ (And.intro rfl ?_) | refine And.intro rfl ?_)
      refine s_below (bi := 3) rfl (fun d1 d2 => ?_) (fun d1 => ?_)
      · repeat (first | refine And.intro (fun e => absurd e (by decide)) (fun e => ?_) | refine And.intro (fun e => ?_) (fun e => absurd e (by decide)) | refine Exists.intro _ (And.intro rfl ?_) | refine And.intro rfl ?_)
        refine s_after (b := 2) (Or.inl rfl) hL.1.2.1 c1 (by omega) d1 (by omega) ?_
        exact hr _ (fun g => absurd g (by omega)) (fun g g2 => absurd ⟨⟨c1, by omega⟩, d1, by omega⟩ g2) (fun _ _ _ => rfl)
      · repeat (first | refine And.intro (fun e => absurd e (by decide)) (fun e => ?_) | refine And.intro (fun e => ?_) (fun e => absurd e (by decide)) | refine Exists.intro _ (And.intro rfl ?_) | refine And.intro rfl ?_)
        exact hr _ (fun g => absurd g (by omega)) (fun g g2 => rfl) (fun _ _ g => absurd ⟨g.1, by omega⟩ d1)
    · repeat (first | refine And.intro (fun e => absurd e (by decide)) (fun e => ?_) | refine And.intro (fun e => ?_) (fun e => absurd e (by decide)) | refine Exists.intro _ (And.intro rfl ?_) | refine And.intro rfl ?_)
      exact hr _ (fun g => absurd g (by omega)) (fun g g2 => rfl) (fun _ g _ => absurd ⟨g.1, by omega⟩ c1)
  · repeat (first | refine And.intro (fun e => absurd e (by decide)) (fun e => ?_) | refine And.intro (fun e => ?_) (fun e => absurd e (by decide)) | refine Exists.intro _ (And.intro rfl ?_) | refine And.intro rfl ?_)
    exact hr _ (fun g => rfl) (fun g => absurd (by omega) g) (fun g => absurd (by omega) g)
end B1
