/-! method by method: the class's answer is the reference's (5) -/
section B5
variable {scr : Option (List Int32)} {P : ba_P} {w : ba_W} {f : Nat → Nat → Int32} {l : Nat → List Int32} {q : Nat → List Int64}
theorem both_decree {a b v : Int32} (hI : Inv f l q) : both scr ix_X8_decree ix_X9_decree [some (.ref 1), some (.int a), some (.int b), some (.int v), none] [some (.ref 43), some (.int a), some (.int b), some (.int v), none] f l q := by
  intro P hP
  obtain ⟨⟨⟨hn1, hn2, hn3⟩, hL, hE, hR⟩, hPp, hD, hM, hS⟩ := id hI
  obtain ⟨⟨m3, m4⟩, -⟩ := plens hI
  have bad : ¬ (f 42 1).toInt = 0 → ¬ (((0 ≤ a.toInt ∧ a.toInt ≤ 3) ∧ 0 ≤ b.toInt ∧ b.toInt ≤ 2) ∧ 0 ≤ v.toInt ∧ v.toInt ≤ 3) → P (some (.int (-2))) (wW f l q) := by
    intro c0 c
    refine hP _ f l q (fun P2 h2 => ?_)
    refine run_X9_decree 60 ?_
    repeat (first | refine And.intro (fun e => absurd e (by decide)) (fun e => ?_) | refine And.intro (fun e => ?_) (fun e => absurd e (by decide)) | refine Exists.intro _ (And.intro rfl ?_) | refine And.intro rfl ?_)
    refine And.intro (fun d => ?_) (fun d => ?_)
    · repeat (first | refine And.intro (fun e => absurd e (by decide)) (fun e => ?_) | refine And.intro (fun e => ?_) (fun e => absurd e (by decide)) | refine Exists.intro _ (And.intro rfl ?_) | refine And.intro rfl ?_)
      refine s_isMark (fun d1 d2 => ?_) (fun d1 => ?_)
      · repeat (first | refine And.intro (fun e => absurd e (by decide)) (fun e => ?_) | refine And.intro (fun e => ?_) (fun e => absurd e (by decide)) | refine Exists.intro _ (And.intro rfl ?_) | refine And.intro rfl ?_)
        refine s_isStamp (fun e1 e2 => ?_) (fun e1 => ?_)
        · repeat (first | refine And.intro (fun e => absurd e (by decide)) (fun e => ?_) | refine And.intro (fun e => ?_) (fun e => absurd e (by decide)) | refine Exists.intro _ (And.intro rfl ?_) | refine And.intro rfl ?_)
          refine s_isMark (fun g1 g2 => absurd ⟨⟨⟨d1, d2⟩, e1, e2⟩, g1, g2⟩ c) (fun g1 => ?_)
          repeat (first | refine And.intro (fun e => absurd e (by decide)) (fun e => ?_) | refine And.intro (fun e => ?_) (fun e => absurd e (by decide)) | refine Exists.intro _ (And.intro rfl ?_) | refine And.intro rfl ?_)
          exact h2 f l q hI
        · repeat (first | refine And.intro (fun e => absurd e (by decide)) (fun e => ?_) | refine And.intro (fun e => ?_) (fun e => absurd e (by decide)) | refine Exists.intro _ (And.intro rfl ?_) | refine And.intro rfl ?_)
          exact h2 f l q hI
      · repeat (first | refine And.intro (fun e => absurd e (by decide)) (fun e => ?_) | refine And.intro (fun e => ?_) (fun e => absurd e (by decide)) | refine Exists.intro _ (And.intro rfl ?_) | refine And.intro rfl ?_)
        exact h2 f l q hI
    · simp only [eq_i, zi, Classical.not_not] at d
      exact absurd d c0
  refine run_X8_decree 60 ?_
  repeat (first | refine And.intro (fun e => absurd e (by decide)) (fun e => ?_) | refine And.intro (fun e => ?_) (fun e => absurd e (by decide)) | refine Exists.intro _ (And.intro rfl ?_) | refine And.intro rfl ?_)
  refine s_isOn (b := 2) (Or.inl rfl) (fun c => ?_) (fun c => ?_)
  · repeat (first | refine And.intro (fun e => absurd e (by decide)) (fun e => ?_) | refine And.intro (fun e => ?_) (fun e => absurd e (by decide)) | refine Exists.intro _ (And.intro rfl ?_) | refine And.intro rfl ?_)
    refine s_below (bi := 4) rfl (fun c1 c2 => ?_) (fun c1 => ?_)
    · repeat (first | refine And.intro (fun e => absurd e (by decide)) (fun e => ?_) | refine And.intro (fun e => ?_) (fun e => absurd e (by decide)) | refine Exists.intro _ (And.intro rfl ?_) | refine And.intro rfl ?_)
      refine s_below (bi := 3) rfl (fun d1 d2 => ?_) (fun d1 => ?_)
      · repeat (first | refine And.intro (fun e => absurd e (by decide)) (fun e => ?_) | refine And.intro (fun e => ?_) (fun e => absurd e (by decide)) | refine Exists.intro _ (And.intro rfl ?_) | refine And.intro rfl ?_)
        refine s_below (bi := 4) rfl (fun e1 e2 => ?_) (fun e1 => ?_)
        · have hi := idx3 c1 (by omega) d1 (by omega)
          repeat (first | refine And.intro (fun e => absurd e (by decide)) (fun e => ?_) | refine And.intro (fun e => ?_) (fun e => absurd e (by decide)) | refine Exists.intro _ (And.intro rfl ?_) | refine And.intro rfl ?_)
          refine s_after (b := 2) (Or.inl rfl) hL.1.2.1 c1 (by omega) d1 (by omega) ?_
          repeat (first | refine And.intro (fun e => absurd e (by decide)) (fun e => ?_) | refine And.intro (fun e => ?_) (fun e => absurd e (by decide)) | refine Exists.intro _ (And.intro rfl ?_) | refine And.intro rfl ?_)
          refine s_become (b := 2) (Or.inl rfl) hL.1.2.1 c1 (by omega) d1 (by omega) ?_
          repeat (first | refine And.intro (fun e => absurd e (by decide)) (fun e => ?_) | refine And.intro (fun e => ?_) (fun e => absurd e (by decide)) | refine Exists.intro _ (And.intro rfl ?_) | refine And.intro rfl ?_)
          refine hP _ f _ q (fun P2 h2 => ?_)
          refine run_X9_decree 60 ?_
          repeat (first | refine And.intro (fun e => absurd e (by decide)) (fun e => ?_) | refine And.intro (fun e => ?_) (fun e => absurd e (by decide)) | refine Exists.intro _ (And.intro rfl ?_) | refine And.intro rfl ?_)
          refine And.intro (fun g => ?_) (fun g => ?_)
          · repeat (first | refine And.intro (fun e => absurd e (by decide)) (fun e => ?_) | refine And.intro (fun e => ?_) (fun e => absurd e (by decide)) | refine Exists.intro _ (And.intro rfl ?_) | refine And.intro rfl ?_)
            refine s_isMark (fun g1 g2 => ?_) (fun g1 => absurd ⟨c1, by omega⟩ g1)
            repeat (first | refine And.intro (fun e => absurd e (by decide)) (fun e => ?_) | refine And.intro (fun e => ?_) (fun e => absurd e (by decide)) | refine Exists.intro _ (And.intro rfl ?_) | refine And.intro rfl ?_)
            refine s_isStamp (fun g1 g2 => ?_) (fun g1 => absurd ⟨d1, by omega⟩ g1)
            repeat (first | refine And.intro (fun e => absurd e (by decide)) (fun e => ?_) | refine And.intro (fun e => ?_) (fun e => absurd e (by decide)) | refine Exists.intro _ (And.intro rfl ?_) | refine And.intro rfl ?_)
            refine s_isMark (fun g1 g2 => ?_) (fun g1 => absurd ⟨e1, by omega⟩ g1)
            repeat (first | refine And.intro (fun e => absurd e (by decide)) (fun e => ?_) | refine And.intro (fun e => ?_) (fun e => absurd e (by decide)) | refine Exists.intro _ (And.intro rfl ?_) | refine And.intro rfl ?_)
            refine r_becomes m4 c1 (by omega) d1 (by omega) ?_
            repeat (first | refine And.intro (fun e => absurd e (by decide)) (fun e => ?_) | refine And.intro (fun e => ?_) (fun e => absurd e (by decide)) | refine Exists.intro _ (And.intro rfl ?_) | refine And.intro rfl ?_)
            have ei : (Int32.ofInt 3 * a + b) = a * 3 + b := by rw [Int32.mul_comm]; rfl
            refine Exists.intro _ (And.intro (stI_of rfl (by show 0 ≤ (Int32.ofInt 3 * a + b).toInt; rw [ei]; omega) (by show (Int32.ofInt 3 * a + b).toInt < ((l 44).length : Nat); rw [m4, ei]; omega)) ?_)
            have h3 := h2 _ _ _ (inv_rule (i := (a * 3 + b).toNatClampNeg) (v := v) e1 (by omega) hI)
            have ej : rl (l 5) a b = rl (l 44) a b := by rw [hE.1.2]
            rw [ej, ← ei] at h3
            rw [← ei]
            show P2 (some (.int (rl (l 44) a b))) _
            exact h3
          · simp only [eq_i, zi, Classical.not_not] at g
            rw [hn3] at g
            omega
        · repeat (first | refine And.intro (fun e => absurd e (by decide)) (fun e => ?_) | refine And.intro (fun e => ?_) (fun e => absurd e (by decide)) | refine Exists.intro _ (And.intro rfl ?_) | refine And.intro rfl ?_)
          exact bad (by rw [hn3]; omega) (fun g => e1 ⟨g.2.1, by omega⟩)
      · repeat (first | refine And.intro (fun e => absurd e (by decide)) (fun e => ?_) | refine And.intro (fun e => ?_) (fun e => absurd e (by decide)) | refine Exists.intro _ (And.intro rfl ?_) | refine And.intro rfl ?_)
        exact bad (by rw [hn3]; omega) (fun g => d1 ⟨g.1.2.1, by omega⟩)
    · repeat (first | refine And.intro (fun e => absurd e (by decide)) (fun e => ?_) | refine And.intro (fun e => ?_) (fun e => absurd e (by decide)) | refine Exists.intro _ (And.intro rfl ?_) | refine And.intro rfl ?_)
      exact bad (by rw [hn3]; omega) (fun g => c1 ⟨g.1.1.1, by omega⟩)
  · repeat (first | refine And.intro (fun e => absurd e (by decide)) (fun e => ?_) | refine And.intro (fun e => ?_) (fun e => absurd e (by decide)) | refine Exists.intro _ (And.intro rfl ?_) | refine And.intro rfl ?_)
    refine hP _ f l q (fun P2 h2 => ?_)
    refine run_X9_decree 60 ?_
    repeat (first | refine And.intro (fun e => absurd e (by decide)) (fun e => ?_) | refine And.intro (fun e => ?_) (fun e => absurd e (by decide)) | refine Exists.intro _ (And.intro rfl ?_) | refine And.intro rfl ?_)
    refine And.intro (fun d => ?_) (fun d => ?_)
    · simp only [eq_i, zi] at d
      rw [hn3] at d
      omega
    · exact h2 f l q hI
theorem both_fetches {a b : Int32} (hI : Inv f l q) : both scr ix_X8_fetches ix_X9_fetches [some (.ref 1), some (.int a), some (.int b)] [some (.ref 43), some (.int a), some (.int b), none] f l q := by
  intro P hP
  obtain ⟨⟨⟨hn1, hn2, hn3⟩, hL, hE, hR⟩, hPp, hD, hM, hS⟩ := id hI
  obtain ⟨⟨m3, m4⟩, -⟩ := plens hI
  have bad : ¬ (f 42 1).toInt = 0 → ¬ ((0 ≤ a.toInt ∧ a.toInt ≤ 1) ∧ 1 ≤ b.toInt ∧ b.toInt ≤ 99) → P (some (.int (-2))) (wW f l q) := by
    intro c0 c
    refine hP _ f l q (fun P2 h2 => ?_)
    refine run_X9_fetches 60 ?_
    repeat (first | refine And.intro (fun e => absurd e (by decide)) (fun e => ?_) | refine And.intro (fun e => ?_) (fun e => absurd e (by decide)) | refine Exists.intro _ (And.intro rfl ?_) | refine And.intro rfl ?_)
    refine And.intro (fun d => ?_) (fun d => ?_)
    · repeat (first | refine And.intro (fun e => absurd e (by decide)) (fun e => ?_) | refine And.intro (fun e => ?_) (fun e => absurd e (by decide)) | refine Exists.intro _ (And.intro rfl ?_) | refine And.intro rfl ?_)
      refine s_isOffice (fun d1 d2 => ?_) (fun d1 => ?_)
      · repeat (first | refine And.intro (fun e => absurd e (by decide)) (fun e => ?_) | refine And.intro (fun e => ?_) (fun e => absurd e (by decide)) | refine Exists.intro _ (And.intro rfl ?_) | refine And.intro rfl ?_)
        refine s_in (x := b.toInt) (a := 1) (b := 99) l64 rfl rfl (fun e1 e2 => absurd ⟨⟨d1, d2⟩, e1, e2⟩ c) (fun e1 => ?_)
        repeat (first | refine And.intro (fun e => absurd e (by decide)) (fun e => ?_) | refine And.intro (fun e => ?_) (fun e => absurd e (by decide)) | refine Exists.intro _ (And.intro rfl ?_) | refine And.intro rfl ?_)
        exact h2 f l q hI
      · repeat (first | refine And.intro (fun e => absurd e (by decide)) (fun e => ?_) | refine And.intro (fun e => ?_) (fun e => absurd e (by decide)) | refine Exists.intro _ (And.intro rfl ?_) | refine And.intro rfl ?_)
        exact h2 f l q hI
    · simp only [eq_i, zi, Classical.not_not] at d
      exact absurd d c0
  have z99 : (99 : Int32).toInt = 99 := rfl
  refine run_X8_fetches 60 ?_
  repeat (first | refine And.intro (fun e => absurd e (by decide)) (fun e => ?_) | refine And.intro (fun e => ?_) (fun e => absurd e (by decide)) | refine Exists.intro _ (And.intro rfl ?_) | refine And.intro rfl ?_)
  refine s_isOn (b := 2) (Or.inl rfl) (fun c => ?_) (fun c => ?_)
  · repeat (first | refine And.intro (fun e => absurd e (by decide)) (fun e => ?_) | refine And.intro (fun e => ?_) (fun e => absurd e (by decide)) | refine Exists.intro _ (And.intro rfl ?_) | refine And.intro rfl ?_)
    refine s_below (bi := 2) rfl (fun c1 c2 => ?_) (fun c1 => ?_)
    · repeat (first | refine And.intro (fun e => absurd e (by decide)) (fun e => ?_) | refine And.intro (fun e => ?_) (fun e => absurd e (by decide)) | refine Exists.intro _ (And.intro rfl ?_) | refine And.intro rfl ?_)
      refine s_within (a := 1) (b := 99) rfl rfl (fun d1 d2 => ?_) (fun d1 => ?_)
      · have ha := ix_i c1
        have hk := hR.2 a.toNatClampNeg (by omega)
        have e43 : (l 43).getD a.toNatClampNeg 0 = (l 3).getD a.toNatClampNeg 0 := by rw [hE.1.1]
        have es : ((l 3).getD a.toNatClampNeg 0 + b).toInt = ((l 3).getD a.toNatClampNeg 0).toInt + b.toInt := fb_addI (by omega) (by omega)
        generalize hm : (if ((l 3).getD a.toNatClampNeg 0 + b) < 99 then ((l 3).getD a.toNatClampNeg 0 + b) else 99) = mn
        have hmn : 0 ≤ mn.toInt ∧ mn.toInt ≤ 99 := by
          rw [← hm]
          split
          · next h => rw [lt_i, z99] at h; omega
          · rw [z99]; omega
        have hw : ∀ y, y = mn → ba_stI (wW f l q) 4 a y = some (wW f (u1 l 3 ((l 3).set a.toNatClampNeg mn)) q) := fun y hy => by
          subst hy
          exact (stI_of rfl c1 (by rw [hL.1.1]; omega)).trans rfl
        repeat (first | refine And.intro (fun e => absurd e (by decide)) (fun e => ?_) | refine And.intro (fun e => ?_) (fun e => absurd e (by decide)) | refine Exists.intro _ (And.intro rfl ?_) | refine And.intro rfl ?_)
        refine Exists.intro _ (And.intro (ldI_of rfl c1 (by rw [hL.1.1]; omega)) ?_)
        repeat (first | refine And.intro (fun e => absurd e (by decide)) (fun e => ?_) | refine And.intro (fun e => ?_) (fun e => absurd e (by decide)) | refine Exists.intro _ (And.intro rfl ?_) | refine And.intro rfl ?_)
        refine Exists.intro _ (And.intro (hw _ hm) ?_)
        repeat (first | refine And.intro (fun e => absurd e (by decide)) (fun e => ?_) | refine And.intro (fun e => ?_) (fun e => absurd e (by decide)) | refine Exists.intro _ (And.intro rfl ?_) | refine And.intro rfl ?_)
        refine Exists.intro _ (And.intro (ldI_of rfl c1 (by show a.toInt < ((List.set _ _ _).length : Nat); rw [List.length_set, hL.1.1]; omega)) ?_)
        refine hP _ f _ q (fun P2 h2 => ?_)
        refine run_X9_fetches 60 ?_
        repeat (first | refine And.intro (fun e => absurd e (by decide)) (fun e => ?_) | refine And.intro (fun e => ?_) (fun e => absurd e (by decide)) | refine Exists.intro _ (And.intro rfl ?_) | refine And.intro rfl ?_)
        refine And.intro (fun g => ?_) (fun g => ?_)
        · repeat (first | refine And.intro (fun e => absurd e (by decide)) (fun e => ?_) | refine And.intro (fun e => ?_) (fun e => absurd e (by decide)) | refine Exists.intro _ (And.intro rfl ?_) | refine And.intro rfl ?_)
          refine s_isOffice (fun g1 g2 => ?_) (fun g1 => absurd ⟨c1, by omega⟩ g1)
          repeat (first | refine And.intro (fun e => absurd e (by decide)) (fun e => ?_) | refine And.intro (fun e => ?_) (fun e => absurd e (by decide)) | refine Exists.intro _ (And.intro rfl ?_) | refine And.intro rfl ?_)
          refine s_in (x := b.toInt) (a := 1) (b := 99) l64 rfl rfl (fun e1 e2 => ?_) (fun e1 => absurd ⟨d1, d2⟩ e1)
          repeat (first | refine And.intro (fun e => absurd e (by decide)) (fun e => ?_) | refine And.intro (fun e => ?_) (fun e => absurd e (by decide)) | refine Exists.intro _ (And.intro rfl ?_) | refine And.intro rfl ?_)
          refine Exists.intro _ (And.intro (ldI_of rfl c1 (by show a.toInt < ((l 43).length : Nat); rw [m3]; omega)) ?_)
          repeat (first | refine And.intro (fun e => absurd e (by decide)) (fun e => ?_) | refine And.intro (fun e => ?_) (fun e => absurd e (by decide)) | refine Exists.intro _ (And.intro rfl ?_) | refine And.intro rfl ?_)
          have fin : ∀ y : Int32, y = mn → P2 (some (.int (((l 43).set a.toNatClampNeg y).getD a.toNatClampNeg 0))) (wW f (u1 (u1 l 3 ((l 3).set a.toNatClampNeg mn)) 43 ((l 43).set a.toNatClampNeg y)) q) := by
            intro y hy
            subst hy
            have h3 := h2 _ _ _ (inv_ink (i := a.toNatClampNeg) (v := y) hmn.1 hmn.2 hI)
            have e1 : ((l 3).set a.toNatClampNeg y).getD a.toNatClampNeg 0 = ((l 43).set a.toNatClampNeg y).getD a.toNatClampNeg 0 := by rw [hE.1.1]
            have h4 : P2 (some (.int (((l 3).set a.toNatClampNeg y).getD a.toNatClampNeg 0))) (wW f (u1 (u1 l 3 ((l 3).set a.toNatClampNeg y)) 43 ((l 43).set a.toNatClampNeg y)) q) := h3
            rw [e1] at h4
            exact h4
          refine And.intro (fun j => ?_) (fun j => ?_)
          · have j : (l 43).getD a.toNatClampNeg 0 + b ≤ 99 := j
            rw [e43, le_i, z99] at j
            repeat (first | refine And.intro (fun e => absurd e (by decide)) (fun e => ?_) | refine And.intro (fun e => ?_) (fun e => absurd e (by decide)) | refine Exists.intro _ (And.intro rfl ?_) | refine And.intro rfl ?_)
            refine Exists.intro _ (And.intro (stI_of rfl c1 (by show a.toInt < ((l 43).length : Nat); rw [m3]; omega)) ?_)
            repeat (first | refine And.intro (fun e => absurd e (by decide)) (fun e => ?_) | refine And.intro (fun e => ?_) (fun e => absurd e (by decide)) | refine Exists.intro _ (And.intro rfl ?_) | refine And.intro rfl ?_)
            refine Exists.intro _ (And.intro (ldI_of rfl c1 (by show a.toInt < ((List.set _ _ _).length : Nat); rw [List.length_set]; show a.toInt < ((l 43).length : Nat); rw [m3]; omega)) ?_)
            refine fin _ ?_
            show (l 43).getD a.toNatClampNeg 0 + b = mn
            rw [← hm, e43]
            split
            · rfl
            · next h => rw [lt_i, z99] at h; rw [eq_i, z99]; omega
          · have j : ¬ (l 43).getD a.toNatClampNeg 0 + b ≤ 99 := j
            rw [e43, le_i, z99] at j
            repeat (first | refine And.intro (fun e => absurd e (by decide)) (fun e => ?_) | refine And.intro (fun e => ?_) (fun e => absurd e (by decide)) | refine Exists.intro _ (And.intro rfl ?_) | refine And.intro rfl ?_)
            refine Exists.intro _ (And.intro (stI_of rfl c1 (by show a.toInt < ((l 43).length : Nat); rw [m3]; omega)) ?_)
            repeat (first | refine And.intro (fun e => absurd e (by decide)) (fun e => ?_) | refine And.intro (fun e => ?_) (fun e => absurd e (by decide)) | refine Exists.intro _ (And.intro rfl ?_) | refine And.intro rfl ?_)
            refine Exists.intro _ (And.intro (ldI_of rfl c1 (by show a.toInt < ((List.set _ _ _).length : Nat); rw [List.length_set]; show a.toInt < ((l 43).length : Nat); rw [m3]; omega)) ?_)
            refine fin _ ?_
            show 99 = mn
            rw [← hm, if_neg (by rw [lt_i, z99]; omega)]
        · simp only [eq_i, zi, Classical.not_not] at g
          rw [hn3] at g
          omega
      · repeat (first | refine And.intro (fun e => absurd e (by decide)) (fun e => ?_) | refine And.intro (fun e => ?_) (fun e => absurd e (by decide)) | refine Exists.intro _ (And.intro rfl ?_) | refine And.intro rfl ?_)
        exact bad (by rw [hn3]; omega) (fun g => d1 g.2)
    · repeat (first | refine And.intro (fun e => absurd e (by decide)) (fun e => ?_) | refine And.intro (fun e => ?_) (fun e => absurd e (by decide)) | refine Exists.intro _ (And.intro rfl ?_) | refine And.intro rfl ?_)
      exact bad (by rw [hn3]; omega) (fun g => c1 ⟨g.1.1, by omega⟩)
  · repeat (first | refine And.intro (fun e => absurd e (by decide)) (fun e => ?_) | refine And.intro (fun e => ?_) (fun e => absurd e (by decide)) | refine Exists.intro _ (And.intro rfl ?_) | refine And.intro rfl ?_)
    refine hP _ f l q (fun P2 h2 => ?_)
    refine run_X9_fetches 60 ?_
    repeat (first | refine And.intro (fun e => absurd e (by decide)) (fun e => ?_) | refine And.intro (fun e => ?_) (fun e => absurd e (by decide)) | refine Exists.intro _ (And.intro rfl ?_) | refine And.intro rfl ?_)
    refine And.intro (fun d => ?_) (fun d => ?_)
    · simp only [eq_i, zi] at d
      rw [hn3] at d
      omega
    · exact h2 f l q hI
end B5
