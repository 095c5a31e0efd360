/-! method by method: the class's answer is the reference's (6) -/
section B6
variable {scr : Option (List Int32)} {P : ba_P} {w : ba_W} {f : Nat → Nat → Int32} {l : Nat → List Int32} {q : Nat → List Int64}
theorem both_ofPerson {p a : Int32} (hI : Inv f l q) : both scr ix_X8_ofPerson ix_X9_ofPerson [some (.ref 1), some (.int p), some (.int a), none] [some (.ref 43), some (.int p), some (.int a)] f l q := by
  intro P hP
  obtain ⟨⟨⟨hn1, hn2, hn3⟩, hL, hE, hR⟩, hPp, hD, hM, hS⟩ := id hI
  obtain ⟨-, m5, m6, m7, m8⟩ := plens hI
  refine run_X8_ofPerson 60 ?_
  repeat (first | refine And.intro (fun e => absurd e (by decide)) (fun e => ?_) | refine And.intro (fun e => ?_) (fun e => absurd e (by decide)) | refine Exists.intro _ (And.intro rfl ?_) | refine And.intro rfl ?_)
  refine s_personOf (b := 2) (Or.inl rfl) hn2 (fun c d => ?_) (fun c => ?_)
  · obtain ⟨⟨k1, k2, k3⟩, k4, k5, k6, k7⟩ := pfacts hI c d
    have hat := people_at (f := f) (l := l) (q := q) k1
    have start : ∀ P2 : ba_P, ba_wp (ba_go scr) none mo_X9_ofPerson mo_X9_ofPerson_r 40 ix_X9_ofPerson 10 [some (.ref 43), some (.int p), some (.int a)] [] (wW f l q) 0 0 P2 → ba_go scr ix_X9_ofPerson 0 [some (.ref 43), some (.int p), some (.int a)] [] (wW f l q) 0 0 P2 := by
      intro P2 h
      refine run_X9_ofPerson 44 ?_
      repeat (first | refine And.intro (fun e => absurd e (by decide)) (fun e => ?_) | refine And.intro (fun e => ?_) (fun e => absurd e (by decide)) | refine Exists.intro _ (And.intro rfl ?_) | refine And.intro rfl ?_)
      refine r_noPerson (by rw [hn3]; exact hn1) (fun g1 g2 => ?_) (fun g1 => absurd ⟨c, by rw [hn3]; exact d⟩ g1)
      repeat (first | refine And.intro (fun e => absurd e (by decide)) (fun e => ?_) | refine And.intro (fun e => ?_) (fun e => absurd e (by decide)) | refine Exists.intro _ (And.intro rfl ?_) | refine And.intro rfl ?_)
      exact h
    have pick : ∀ (P2 : ba_P) (i : Nat) (t : Nat), a.toInt = (i : Int) → i < 6 → [48, 55, 62, 69, 76, 82][i]? = some t → ba_wp (ba_go scr) none mo_X9_ofPerson mo_X9_ofPerson_r 38 ix_X9_ofPerson t [some (.ref 43), some (.int p), some (.int a)] [] (wW f l q) 0 0 P2 → ba_wp (ba_go scr) none mo_X9_ofPerson mo_X9_ofPerson_r 40 ix_X9_ofPerson 10 [some (.ref 43), some (.int p), some (.int a)] [] (wW f l q) 0 0 P2 := by
      intro P2 i t ha hi ht h
      refine And.intro (fun e => absurd e (by omega)) (ba_sw_mk _ _ (fun j t' hj he => ?_))
      have : j = i := by omega
      subst this
      have hj : [48, 55, 62, 69, 76, 82][j]? = some t' := hj
      rw [ht] at hj
      cases hj
      exact h
    repeat (first | refine And.intro (fun e => absurd e (by decide)) (fun e => ?_) | refine And.intro (fun e => ?_) (fun e => absurd e (by decide)) | refine Exists.intro _ (And.intro rfl ?_) | refine And.intro rfl ?_)
    refine And.intro (fun g => ?_) (ba_sw_mk _ _ (fun j t hj he => ?_))
    · repeat (first | refine And.intro (fun e => absurd e (by decide)) (fun e => ?_) | refine And.intro (fun e => ?_) (fun e => absurd e (by decide)) | refine Exists.intro _ (And.intro rfl ?_) | refine And.intro rfl ?_)
      refine hP _ f l q (fun P2 h2 => start P2 ?_)
      refine And.intro (fun e => ?_) (ba_sw_mk _ _ (fun j t' hj he => ?_))
      · repeat (first | refine And.intro (fun e => absurd e (by decide)) (fun e => ?_) | refine And.intro (fun e => ?_) (fun e => absurd e (by decide)) | refine Exists.intro _ (And.intro rfl ?_) | refine And.intro rfl ?_)
        exact h2 f l q hI
      · have : j < 6 := (List.getElem?_eq_some_iff.mp hj).1
        omega
    · have he : a.toInt = 0 + (j : Int) := he
      have hj : [56, 61, 66, 71, 76, 81][j]? = some t := hj
      match j, hj with
      | 0, hj =>
        cases hj
        refine Exists.intro _ (And.intro (fld_of hat rfl) ?_)
        refine hP _ f l q (fun P2 h2 => start P2 (pick P2 0 _ (by omega) (by decide) rfl ?_))
        repeat (first | refine And.intro (fun e => absurd e (by decide)) (fun e => ?_) | refine And.intro (fun e => ?_) (fun e => absurd e (by decide)) | refine Exists.intro _ (And.intro rfl ?_) | refine And.intro rfl ?_)
        refine Exists.intro _ (And.intro (ldI_of rfl c (by rw [m5]; exact k2)) ?_)
        rw [k4]
        exact h2 f l q hI
      | 1, hj =>
        cases hj
        refine Exists.intro _ (And.intro (fld_of hat rfl) ?_)
        refine hP _ f l q (fun P2 h2 => start P2 (pick P2 1 _ (by omega) (by decide) rfl ?_))
        repeat (first | refine And.intro (fun e => absurd e (by decide)) (fun e => ?_) | refine And.intro (fun e => ?_) (fun e => absurd e (by decide)) | refine Exists.intro _ (And.intro rfl ?_) | refine And.intro rfl ?_)
        refine Exists.intro _ (And.intro (ldI_of rfl c (by rw [m6]; exact k2)) ?_)
        rw [k5]
        exact h2 f l q hI
      | 2, hj =>
        cases hj
        refine Exists.intro _ (And.intro (fld_of hat rfl) ?_)
        refine hP _ f l q (fun P2 h2 => start P2 (pick P2 2 _ (by omega) (by decide) rfl ?_))
        repeat (first | refine And.intro (fun e => absurd e (by decide)) (fun e => ?_) | refine And.intro (fun e => ?_) (fun e => absurd e (by decide)) | refine Exists.intro _ (And.intro rfl ?_) | refine And.intro rfl ?_)
        refine Exists.intro _ (And.intro (ldI_of rfl c (by rw [m7]; exact k2)) ?_)
        rw [k6]
        exact h2 f l q hI
      | 3, hj =>
        cases hj
        refine Exists.intro _ (And.intro (fld_of hat rfl) ?_)
        refine hP _ f l q (fun P2 h2 => start P2 (pick P2 3 _ (by omega) (by decide) rfl ?_))
        repeat (first | refine And.intro (fun e => absurd e (by decide)) (fun e => ?_) | refine And.intro (fun e => ?_) (fun e => absurd e (by decide)) | refine Exists.intro _ (And.intro rfl ?_) | refine And.intro rfl ?_)
        refine Exists.intro _ (And.intro (ldI_of rfl c (by rw [m8]; exact k2)) ?_)
        rw [k7]
        exact h2 f l q hI
      | 4, hj =>
        cases hj
        refine And.intro (ck rfl rfl rfl rfl (isC_of hat)) (s_takes hat ?_)
        refine hP _ f l q (fun P2 h2 => start P2 (pick P2 4 _ (by omega) (by decide) rfl ?_))
        refine And.intro rfl (r_takes m8 m5 c k2 ?_)
        rw [k4, k7]
        exact h2 f l q hI
      | 5, hj =>
        cases hj
        refine And.intro (ck rfl rfl rfl rfl (isC_of hat)) (s_isAtWork hat k3.2.2.1.1 k3.2.2.1.2 (fun g => ?_) (fun g => ?_))
        · repeat (first | refine And.intro (fun e => absurd e (by decide)) (fun e => ?_) | refine And.intro (fun e => ?_) (fun e => absurd e (by decide)) | refine Exists.intro _ (And.intro rfl ?_) | refine And.intro rfl ?_)
          refine hP _ f l q (fun P2 h2 => start P2 (pick P2 5 _ (by omega) (by decide) rfl ?_))
          repeat (first | refine And.intro (fun e => absurd e (by decide)) (fun e => ?_) | refine And.intro (fun e => ?_) (fun e => absurd e (by decide)) | refine Exists.intro _ (And.intro rfl ?_) | refine And.intro rfl ?_)
          refine Exists.intro _ (And.intro (ldI_of rfl c (by rw [m7]; exact k2)) ?_)
          refine And.intro rfl (r_works (fun j => ?_) (fun j => absurd (by rw [k6]; exact g) j))
          repeat (first | refine And.intro (fun e => absurd e (by decide)) (fun e => ?_) | refine And.intro (fun e => ?_) (fun e => absurd e (by decide)) | refine Exists.intro _ (And.intro rfl ?_) | refine And.intro rfl ?_)
          exact h2 f l q hI
        · repeat (first | refine And.intro (fun e => absurd e (by decide)) (fun e => ?_) | refine And.intro (fun e => ?_) (fun e => absurd e (by decide)) | refine Exists.intro _ (And.intro rfl ?_) | refine And.intro rfl ?_)
          refine hP _ f l q (fun P2 h2 => start P2 (pick P2 5 _ (by omega) (by decide) rfl ?_))
          repeat (first | refine And.intro (fun e => absurd e (by decide)) (fun e => ?_) | refine And.intro (fun e => ?_) (fun e => absurd e (by decide)) | refine Exists.intro _ (And.intro rfl ?_) | refine And.intro rfl ?_)
          refine Exists.intro _ (And.intro (ldI_of rfl c (by rw [m7]; exact k2)) ?_)
          refine And.intro rfl (r_works (fun j => absurd (by rw [k6] at j; exact j) g) (fun j => ?_))
          repeat (first | refine And.intro (fun e => absurd e (by decide)) (fun e => ?_) | refine And.intro (fun e => ?_) (fun e => absurd e (by decide)) | refine Exists.intro _ (And.intro rfl ?_) | refine And.intro rfl ?_)
          exact h2 f l q hI
      | j + 6, hj => exact absurd (List.getElem?_eq_some_iff.mp hj).1 (by show ¬ j + 6 < 6; omega)
  · repeat (first | refine And.intro (fun e => absurd e (by decide)) (fun e => ?_) | refine And.intro (fun e => ?_) (fun e => absurd e (by decide)) | refine Exists.intro _ (And.intro rfl ?_) | refine And.intro rfl ?_)
    refine hP _ f l q (fun P2 h2 => ?_)
    refine run_X9_ofPerson 60 ?_
    repeat (first | refine And.intro (fun e => absurd e (by decide)) (fun e => ?_) | refine And.intro (fun e => ?_) (fun e => absurd e (by decide)) | refine Exists.intro _ (And.intro rfl ?_) | refine And.intro rfl ?_)
    refine r_noPerson (by rw [hn3]; exact hn1) (fun g1 g2 => absurd ⟨g1, by rw [← hn3]; exact g2⟩ c) (fun g1 => ?_)
    repeat (first | refine And.intro (fun e => absurd e (by decide)) (fun e => ?_) | refine And.intro (fun e => ?_) (fun e => absurd e (by decide)) | refine Exists.intro _ (And.intro rfl ?_) | refine And.intro rfl ?_)
    exact h2 f l q hI
theorem s_leaves {v : Int32} (hP : P none (wW (u2 f 33 0 (31 * f 33 0 + v)) l q)) : ba_go scr ix_X0_leaves 0 [some (.ref 34), some (.int v)] [] (wW f l q) 0 0 P := by
  refine run_X0_leaves 30 ?_
  repeat (first | refine And.intro (fun e => absurd e (by decide)) (fun e => ?_) | refine And.intro (fun e => ?_) (fun e => absurd e (by decide)) | refine Exists.intro _ (And.intro rfl ?_) | refine And.intro rfl ?_)
  exact hP
theorem r_traced {v : Int32} (hP : P none (wW (u2 f 42 29 (31 * f 42 29 + v)) l q)) : ba_go scr ix_X9_traced 0 [some (.ref 43), some (.int v)] [] (wW f l q) 0 0 P := by
  refine run_X9_traced 30 ?_
  repeat (first | refine And.intro (fun e => absurd e (by decide)) (fun e => ?_) | refine And.intro (fun e => ?_) (fun e => absurd e (by decide)) | refine Exists.intro _ (And.intro rfl ?_) | refine And.intro rfl ?_)
  exact hP
theorem both_salute {p : Int32} (hI : Inv f l q) : both scr ix_X8_salute ix_X9_salute [some (.ref 1), some (.int p), none] [some (.ref 43), some (.int p)] f l q := by
  intro P hP
  obtain ⟨⟨⟨hn1, hn2, hn3⟩, hL, hE, hR⟩, hPp, hD, hM, hS⟩ := id hI
  obtain ⟨-, m5, m6, m7, m8⟩ := plens hI
  refine run_X8_salute 60 ?_
  repeat (first | refine And.intro (fun e => absurd e (by decide)) (fun e => ?_) | refine And.intro (fun e => ?_) (fun e => absurd e (by decide)) | refine Exists.intro _ (And.intro rfl ?_) | refine And.intro rfl ?_)
  refine s_personOf (b := 2) (Or.inl rfl) hn2 (fun c d => ?_) (fun c => ?_)
  · obtain ⟨⟨k1, k2, k3⟩, k4, k5, k6, k7⟩ := pfacts hI c d
    have hat := people_at (f := f) (l := l) (q := q) k1
    repeat (first | refine And.intro (fun e => absurd e (by decide)) (fun e => ?_) | refine And.intro (fun e => ?_) (fun e => absurd e (by decide)) | refine Exists.intro _ (And.intro rfl ?_) | refine And.intro rfl ?_)
    refine run_X0_salutes 30 ?_
    refine Exists.intro _ (And.intro (fld_of hat rfl) ?_)
    refine And.intro (fun g => ?_) (fun g => ?_)
    · have g : ¬ f (9 + p.toNatClampNeg) 0 = 2 := g
      repeat (first | refine And.intro (fun e => absurd e (by decide)) (fun e => ?_) | refine And.intro (fun e => ?_) (fun e => absurd e (by decide)) | refine Exists.intro _ (And.intro rfl ?_) | refine And.intro rfl ?_)
      refine s_leaves ?_
      refine hP _ _ _ _ (fun P2 h2 => ?_)
      refine run_X9_salute 60 ?_
      repeat (first | refine And.intro (fun e => absurd e (by decide)) (fun e => ?_) | refine And.intro (fun e => ?_) (fun e => absurd e (by decide)) | refine Exists.intro _ (And.intro rfl ?_) | refine And.intro rfl ?_)
      refine r_noPerson (f := u2 f 33 0 (31 * f 33 0 + 4)) (by show 0 ≤ (f 42 1).toInt; rw [hn3]; exact hn1) (fun g1 g2 => ?_) (fun g1 => absurd ⟨c, by show _ < (f 42 1).toInt; rw [hn3]; exact d⟩ g1)
      repeat (first | refine And.intro (fun e => absurd e (by decide)) (fun e => ?_) | refine And.intro (fun e => ?_) (fun e => absurd e (by decide)) | refine Exists.intro _ (And.intro rfl ?_) | refine And.intro rfl ?_)
      refine Exists.intro _ (And.intro (ldI_of rfl c (by rw [m5]; exact k2)) ?_)
      refine And.intro (fun j => ?_) (fun j => ?_)
      · repeat (first | refine And.intro (fun e => absurd e (by decide)) (fun e => ?_) | refine And.intro (fun e => ?_) (fun e => absurd e (by decide)) | refine Exists.intro _ (And.intro rfl ?_) | refine And.intro rfl ?_)
        refine r_traced (f := u2 f 33 0 (31 * f 33 0 + 4)) ?_
        repeat (first | refine And.intro (fun e => absurd e (by decide)) (fun e => ?_) | refine And.intro (fun e => ?_) (fun e => absurd e (by decide)) | refine Exists.intro _ (And.intro rfl ?_) | refine And.intro rfl ?_)
        refine Exists.intro _ (And.intro (ldI_of rfl c (by rw [m5]; exact k2)) ?_)
        refine And.intro (fun j2 => ?_) (fun j2 => ?_)
        · have h3 := h2 _ _ _ (inv_trace (v := 31 * f 33 0 + 4) hI)
          have e : (31 * (u2 f 33 0 (31 * f 33 0 + 4)) 42 29 + 4) = 31 * f 33 0 + 4 := by show 31 * f 42 29 + 4 = _; rw [hM.2.2]
          have fin : ∀ y, y = 31 * f 33 0 + 4 → P2 (some (.int p)) (wW (u2 (u2 f 33 0 (31 * f 33 0 + 4)) 42 29 y) l q) := fun y hy => by
            subst hy
            exact h3
          exact fin _ e
        · exact absurd j2 (fun z => z j)
      · rw [k4] at j
        exact absurd g j
    · have g : f (9 + p.toNatClampNeg) 0 = 2 := Classical.not_not.mp g
      repeat (first | refine And.intro (fun e => absurd e (by decide)) (fun e => ?_) | refine And.intro (fun e => ?_) (fun e => absurd e (by decide)) | refine Exists.intro _ (And.intro rfl ?_) | refine And.intro rfl ?_)
      refine s_leaves ?_
      refine hP _ _ _ _ (fun P2 h2 => ?_)
      refine run_X9_salute 60 ?_
      repeat (first | refine And.intro (fun e => absurd e (by decide)) (fun e => ?_) | refine And.intro (fun e => ?_) (fun e => absurd e (by decide)) | refine Exists.intro _ (And.intro rfl ?_) | refine And.intro rfl ?_)
      refine r_noPerson (f := u2 f 33 0 (31 * f 33 0 + 5)) (by show 0 ≤ (f 42 1).toInt; rw [hn3]; exact hn1) (fun g1 g2 => ?_) (fun g1 => absurd ⟨c, by show _ < (f 42 1).toInt; rw [hn3]; exact d⟩ g1)
      repeat (first | refine And.intro (fun e => absurd e (by decide)) (fun e => ?_) | refine And.intro (fun e => ?_) (fun e => absurd e (by decide)) | refine Exists.intro _ (And.intro rfl ?_) | refine And.intro rfl ?_)
      refine Exists.intro _ (And.intro (ldI_of rfl c (by rw [m5]; exact k2)) ?_)
      refine And.intro (fun j => ?_) (fun j => ?_)
      · rw [k4] at j
        exact absurd g j
      · repeat (first | refine And.intro (fun e => absurd e (by decide)) (fun e => ?_) | refine And.intro (fun e => ?_) (fun e => absurd e (by decide)) | refine Exists.intro _ (And.intro rfl ?_) | refine And.intro rfl ?_)
        refine r_traced (f := u2 f 33 0 (31 * f 33 0 + 5)) ?_
        repeat (first | refine And.intro (fun e => absurd e (by decide)) (fun e => ?_) | refine And.intro (fun e => ?_) (fun e => absurd e (by decide)) | refine Exists.intro _ (And.intro rfl ?_) | refine And.intro rfl ?_)
        refine Exists.intro _ (And.intro (ldI_of rfl c (by rw [m5]; exact k2)) ?_)
        refine And.intro (fun j2 => ?_) (fun j2 => ?_)
        · exact absurd j2 j
        · have h3 := h2 _ _ _ (inv_trace (v := 31 * f 33 0 + 5) hI)
          have e : (31 * (u2 f 33 0 (31 * f 33 0 + 5)) 42 29 + 5) = 31 * f 33 0 + 5 := by show 31 * f 42 29 + 5 = _; rw [hM.2.2]
          have fin : ∀ y, y = 31 * f 33 0 + 5 → P2 (some (.int 80)) (wW (u2 (u2 f 33 0 (31 * f 33 0 + 5)) 42 29 y) l q) := fun y hy => by
            subst hy
            exact h3
          exact fin _ e
  · repeat (first | refine And.intro (fun e => absurd e (by decide)) (fun e => ?_) | refine And.intro (fun e => ?_) (fun e => absurd e (by decide)) | refine Exists.intro _ (And.intro rfl ?_) | refine And.intro rfl ?_)
    refine hP _ f l q (fun P2 h2 => ?_)
    refine run_X9_salute 60 ?_
    repeat (first | refine And.intro (fun e => absurd e (by decide)) (fun e => ?_) | refine And.intro (fun e => ?_) (fun e => absurd e (by decide)) | refine Exists.intro _ (And.intro rfl ?_) | refine And.intro rfl ?_)
    refine r_noPerson (by rw [hn3]; exact hn1) (fun g1 g2 => absurd ⟨g1, by rw [← hn3]; exact g2⟩ c) (fun g1 => ?_)
    repeat (first | refine And.intro (fun e => absurd e (by decide)) (fun e => ?_) | refine And.intro (fun e => ?_) (fun e => absurd e (by decide)) | refine Exists.intro _ (And.intro rfl ?_) | refine And.intro rfl ?_)
    exact h2 f l q hI
end B6
