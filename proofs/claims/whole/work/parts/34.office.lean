/-! ofOffice -/
section OO
variable {scr : Option (List Int32)} {P : ba_P} {w : ba_W} {f : Nat → Nat → Int32} {l : Nat → List Int32} {q : Nat → List Int64}
theorem both_ofOffice {a b : Int32} (hI : Inv f l q) : both scr ix_X8_ofOffice ix_X9_ofOffice [some (.ref 1), some (.int a), some (.int b)] [some (.ref 43), some (.int a), some (.int b)] f l q := by
  intro P hP
  obtain ⟨n, hn, hc, hc2⟩ := inv_n hI
  have hm := inv_m hI
  obtain ⟨e1, e2⟩ := ro_wo (n := n) (o := a) hI
  obtain ⟨⟨m3, m4⟩, m5, m6, m7, m8⟩ := plens hI
  obtain ⟨⟨⟨hn1, hn2, hn3⟩, hL, hE, hR⟩, hPp, hD, hM, hS⟩ := id hI
  have start : ∀ P2 : ba_P, ¬ (f 42 1).toInt = 0 → 0 ≤ a.toInt → a.toInt < 2 → 0 ≤ b.toInt → b.toInt ≤ 2 → ba_go scr ix_X9_ofOffice 32 [some (.ref 43), some (.int a), some (.int b)] [] (wW f l q) 0 0 P2 → ba_go scr ix_X9_ofOffice 0 [some (.ref 43), some (.int a), some (.int b)] [] (wW f l q) 0 0 P2 := by
    intro P2 c0 c1 c2 c3 c4 h
    refine run_X9_ofOffice 12 ?_
    repeat (first | refine And.intro (fun e => absurd e (by decide)) (fun e => ?_) | refine And.intro (fun e => ?_) (fun e => absurd e (by decide)) | refine Exists.intro _ (And.intro rfl ?_) | refine And.intro rfl ?_)
    refine And.intro (fun d => ?_) (fun d => absurd (Classical.not_not.mp d) (fun e => c0 (by rw [e]; rfl)))
    repeat (first | refine And.intro (fun e => absurd e (by decide)) (fun e => ?_) | refine And.intro (fun e => ?_) (fun e => absurd e (by decide)) | refine Exists.intro _ (And.intro rfl ?_) | refine And.intro rfl ?_)
    refine s_isOffice (fun d1 d2 => ?_) (fun d1 => absurd ⟨c1, by omega⟩ d1)
    repeat (first | refine And.intro (fun e => absurd e (by decide)) (fun e => ?_) | refine And.intro (fun e => ?_) (fun e => absurd e (by decide)) | refine Exists.intro _ (And.intro rfl ?_) | refine And.intro rfl ?_)
    refine s_in (x := b.toInt) (a := 0) (b := 2) l64 rfl rfl (fun d3 d4 => ?_) (fun d3 => absurd ⟨c3, c4⟩ d3)
    refine And.intro (fun _ => h) (fun e => absurd (by decide) e)
  have bad : ¬ (f 42 1).toInt = 0 → ¬ ((0 ≤ a.toInt ∧ a.toInt ≤ 1) ∧ 0 ≤ b.toInt ∧ b.toInt ≤ 2) → P (some (.int (-2))) (wW f l q) := by
    intro c0 c
    refine hP _ f l q (fun P2 h2 => ?_)
    refine run_X9_ofOffice 60 ?_
    repeat (first | refine And.intro (fun e => absurd e (by decide)) (fun e => ?_) | refine And.intro (fun e => ?_) (fun e => absurd e (by decide)) | refine Exists.intro _ (And.intro rfl ?_) | refine And.intro rfl ?_)
    refine And.intro (fun d => ?_) (fun d => absurd (Classical.not_not.mp d) (fun e => c0 (by rw [e]; rfl)))
    repeat (first | refine And.intro (fun e => absurd e (by decide)) (fun e => ?_) | refine And.intro (fun e => ?_) (fun e => absurd e (by decide)) | refine Exists.intro _ (And.intro rfl ?_) | refine And.intro rfl ?_)
    refine s_isOffice (fun d1 d2 => ?_) (fun d1 => ?_)
    · repeat (first | refine And.intro (fun e => absurd e (by decide)) (fun e => ?_) | refine And.intro (fun e => ?_) (fun e => absurd e (by decide)) | refine Exists.intro _ (And.intro rfl ?_) | refine And.intro rfl ?_)
      refine s_in (x := b.toInt) (a := 0) (b := 2) l64 rfl rfl (fun e1 e2 => absurd ⟨⟨d1, d2⟩, e1, e2⟩ c) (fun e1 => ?_)
      repeat (first | refine And.intro (fun e => absurd e (by decide)) (fun e => ?_) | refine And.intro (fun e => ?_) (fun e => absurd e (by decide)) | refine Exists.intro _ (And.intro rfl ?_) | refine And.intro rfl ?_)
      exact h2 f l q hI
    · repeat (first | refine And.intro (fun e => absurd e (by decide)) (fun e => ?_) | refine And.intro (fun e => ?_) (fun e => absurd e (by decide)) | refine Exists.intro _ (And.intro rfl ?_) | refine And.intro rfl ?_)
      exact h2 f l q hI
  refine run_X8_ofOffice 60 ?_
  repeat (first | refine And.intro (fun e => absurd e (by decide)) (fun e => ?_) | refine And.intro (fun e => ?_) (fun e => absurd e (by decide)) | refine Exists.intro _ (And.intro rfl ?_) | refine And.intro rfl ?_)
  refine s_isOn (b := 2) (Or.inl rfl) (fun c => ?_) (fun c => ?_)
  · have c0 : ¬ (f 42 1).toInt = 0 := by rw [hn3]; omega
    repeat (first | refine And.intro (fun e => absurd e (by decide)) (fun e => ?_) | refine And.intro (fun e => ?_) (fun e => absurd e (by decide)) | refine Exists.intro _ (And.intro rfl ?_) | refine And.intro rfl ?_)
    refine s_below (bi := 2) rfl (fun c1 c2 => ?_) (fun c1 => ?_)
    · have hx := ix_i c1
      repeat (first | refine And.intro (fun e => absurd e (by decide)) (fun e => ?_) | refine And.intro (fun e => ?_) (fun e => absurd e (by decide)) | refine Exists.intro _ (And.intro rfl ?_) | refine And.intro rfl ?_)
      refine And.intro (fun g => ?_) (ba_sw_mk _ _ (fun j t hj he => ?_))
      · exact bad c0 (fun e => by omega)
      · have he : b.toInt = 0 + (j : Int) := he
        have hj : [52, 62, 71][j]? = some t := hj
        match j, hj with
        | 0, hj =>
          cases hj
          have hb : b = 0 := by rw [eq_i, zi]; omega
          repeat (first | refine And.intro (fun e => absurd e (by decide)) (fun e => ?_) | refine And.intro (fun e => ?_) (fun e => absurd e (by decide)) | refine Exists.intro _ (And.intro rfl ?_) | refine And.intro rfl ?_)
          refine Exists.intro _ (And.intro (ldI_of rfl c1 (by rw [hL.1.1]; omega)) ?_)
          refine hP _ f l q (fun P2 h2 => start P2 c0 c1 c2 (by omega) (by omega) ?_)
          refine run_X9_ofOffice 20 ?_
          refine And.intro (fun d => absurd hb d) (fun d => ?_)
          repeat (first | refine And.intro (fun e => absurd e (by decide)) (fun e => ?_) | refine And.intro (fun e => ?_) (fun e => absurd e (by decide)) | refine Exists.intro _ (And.intro rfl ?_) | refine And.intro rfl ?_)
          refine Exists.intro _ (And.intro (ldI_of rfl c1 (by rw [m3]; omega)) ?_)
          rw [hE.1.1]
          exact h2 f l q hI
        | 1, hj =>
          cases hj
          have hb : b = 1 := by rw [eq_i, show (1 : Int32).toInt = 1 from rfl]; omega
          subst hb
          repeat (first | refine And.intro (fun e => absurd e (by decide)) (fun e => ?_) | refine And.intro (fun e => ?_) (fun e => absurd e (by decide)) | refine Exists.intro _ (And.intro rfl ?_) | refine And.intro rfl ?_)
          refine s_workersOf (Or.inl rfl) hn hc hm ?_
          refine hP _ f l q (fun P2 h2 => start P2 c0 c1 c2 (by omega) (by omega) ?_)
          refine run_X9_ofOffice 20 ?_
          repeat (first | refine And.intro (fun e => absurd e (by decide)) (fun e => ?_) | refine And.intro (fun e => ?_) (fun e => absurd e (by decide)) | refine Exists.intro _ (And.intro rfl ?_) | refine And.intro rfl ?_)
          refine r_peopleOf (o := a) (x := 1) hn hc2 m6 m7 ?_
          rw [e1]
          exact h2 f l q hI
        | 2, hj =>
          cases hj
          have hb : b = 2 := by rw [eq_i, show (2 : Int32).toInt = 2 from rfl]; omega
          subst hb
          repeat (first | refine And.intro (fun e => absurd e (by decide)) (fun e => ?_) | refine And.intro (fun e => ?_) (fun e => absurd e (by decide)) | refine Exists.intro _ (And.intro rfl ?_) | refine And.intro rfl ?_)
          refine s_peopleOf (Or.inl rfl) hn hc ?_
          refine hP _ f l q (fun P2 h2 => start P2 c0 c1 c2 (by omega) (by omega) ?_)
          refine run_X9_ofOffice 20 ?_
          repeat (first | refine And.intro (fun e => absurd e (by decide)) (fun e => ?_) | refine And.intro (fun e => ?_) (fun e => absurd e (by decide)) | refine Exists.intro _ (And.intro rfl ?_) | refine And.intro rfl ?_)
          refine r_peopleOf (o := a) (x := 0) hn hc2 m6 m7 ?_
          rw [e2]
          exact h2 f l q hI
        | j + 3, hj => exact absurd (List.getElem?_eq_some_iff.mp hj).1 (by show ¬ j + 3 < 3; omega)
    · repeat (first | refine And.intro (fun e => absurd e (by decide)) (fun e => ?_) | refine And.intro (fun e => ?_) (fun e => absurd e (by decide)) | refine Exists.intro _ (And.intro rfl ?_) | refine And.intro rfl ?_)
      exact bad c0 (fun e => c1 ⟨e.1.1, by omega⟩)
  · repeat (first | refine And.intro (fun e => absurd e (by decide)) (fun e => ?_) | refine And.intro (fun e => ?_) (fun e => absurd e (by decide)) | refine Exists.intro _ (And.intro rfl ?_) | refine And.intro rfl ?_)
    refine hP _ f l q (fun P2 h2 => ?_)
    refine run_X9_ofOffice 60 ?_
    repeat (first | refine And.intro (fun e => absurd e (by decide)) (fun e => ?_) | refine And.intro (fun e => ?_) (fun e => absurd e (by decide)) | refine Exists.intro _ (And.intro rfl ?_) | refine And.intro rfl ?_)
    refine And.intro (fun d => absurd (show f 42 1 = 0 by rw [eq_i, zi, hn3]; omega) d) (fun d => ?_)
    repeat (first | refine And.intro (fun e => absurd e (by decide)) (fun e => ?_) | refine And.intro (fun e => ?_) (fun e => absurd e (by decide)) | refine Exists.intro _ (And.intro rfl ?_) | refine And.intro rfl ?_)
    exact h2 f l q hI
end OO
