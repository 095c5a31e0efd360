/-! method by method: the class's answer is the reference's (8) -/
section B8
variable {scr : Option (List Int32)} {P : ba_P} {w : ba_W} {f : Nat → Nat → Int32} {l : Nat → List Int32} {q : Nat → List Int64}
theorem uf {f : Nat → Nat → Int32} {x y : Int32} : u2 (u2 f 0 6 x) 0 6 y = u2 f 0 6 y := by
  funext a b
  unfold u2
  cases Nat.beq a 0 <;> cases Nat.beq b 6 <;> rfl
theorem both_as {p a : Int32} (hI : Inv f l q) : both scr ix_X8_as ix_X9_as [some (.ref 1), some (.int p), some (.int a), none] [some (.ref 43), some (.int p), some (.int a)] f l q := by
  intro P hP
  obtain ⟨⟨⟨hn1, hn2, hn3⟩, hL, hE, hR⟩, hPp, hD, hM, hS⟩ := id hI
  obtain ⟨-, m5, m6, m7, m8⟩ := plens hI
  refine run_X8_as 60 ?_
  refine Exists.intro (wW (u2 f 0 6 0) l q) (And.intro rfl ?_)
  repeat (first | refine And.intro (fun e => absurd e (by decide)) (fun e => ?_) | refine And.intro (fun e => ?_) (fun e => absurd e (by decide)) | refine Exists.intro _ (And.intro rfl ?_) | refine And.intro rfl ?_)
  refine s_personOf (f := u2 f 0 6 0) (b := 2) (Or.inl rfl) hn2 (fun c d => ?_) (fun c => ?_)
  · obtain ⟨⟨k1, k2, k3⟩, k4, k5, k6, k7⟩ := pfacts hI c d
    have e0 : (u2 f 0 6 0) (9 + p.toNatClampNeg) 0 = f (9 + p.toNatClampNeg) 0 := u2_ne (by omega)
    repeat (first | refine And.intro (fun e => absurd e (by decide)) (fun e => ?_) | refine And.intro (fun e => ?_) (fun e => absurd e (by decide)) | refine Exists.intro _ (And.intro rfl ?_) | refine And.intro rfl ?_)
    refine s_below (bi := 3) rfl (fun c1 c2 => ?_) (fun c1 => ?_)
    · repeat (first | refine And.intro (fun e => absurd e (by decide)) (fun e => ?_) | refine And.intro (fun e => ?_) (fun e => absurd e (by decide)) | refine Exists.intro _ (And.intro rfl ?_) | refine And.intro rfl ?_)
      refine Exists.intro _ (And.intro (fld_of (people_at (f := u2 f 0 6 0) k1) rfl) ?_)
      rw [e0]
      refine And.intro (fun g => ?_) (fun g => ?_)
      · have g : a ≤ f (9 + p.toNatClampNeg) 0 := g
        repeat (first | refine And.intro (fun e => absurd e (by decide)) (fun e => ?_) | refine And.intro (fun e => ?_) (fun e => absurd e (by decide)) | refine Exists.intro _ (And.intro rfl ?_) | refine And.intro rfl ?_)
        refine hP _ _ _ _ (fun P2 h2 => ?_)
        refine run_X9_as 60 ?_
        repeat (first | refine And.intro (fun e => absurd e (by decide)) (fun e => ?_) | refine And.intro (fun e => ?_) (fun e => absurd e (by decide)) | refine Exists.intro _ (And.intro rfl ?_) | refine And.intro rfl ?_)
        refine r_noPerson (f := u2 f 0 6 0) (by show 0 ≤ (f 42 1).toInt; rw [hn3]; exact hn1) (fun g1 g2 => ?_) (fun g1 => absurd ⟨c, by show _ < (f 42 1).toInt; rw [hn3]; exact d⟩ g1)
        repeat (first | refine And.intro (fun e => absurd e (by decide)) (fun e => ?_) | refine And.intro (fun e => ?_) (fun e => absurd e (by decide)) | refine Exists.intro _ (And.intro rfl ?_) | refine And.intro rfl ?_)
        refine s_in (x := a.toInt) (a := 0) (b := 2) l64 rfl rfl (fun g1 g2 => ?_) (fun g1 => absurd ⟨c1, by omega⟩ g1)
        repeat (first | refine And.intro (fun e => absurd e (by decide)) (fun e => ?_) | refine And.intro (fun e => ?_) (fun e => absurd e (by decide)) | refine Exists.intro _ (And.intro rfl ?_) | refine And.intro rfl ?_)
        refine Exists.intro _ (And.intro (ldI_of rfl c (by rw [m5]; exact k2)) ?_)
        rw [k4]
        refine And.intro (fun j => ?_) (fun j => ?_)
        · have j : f (9 + p.toNatClampNeg) 0 < a := j
          rw [le_i] at g
          rw [lt_i] at j
          omega
        · repeat (first | refine And.intro (fun e => absurd e (by decide)) (fun e => ?_) | refine And.intro (fun e => ?_) (fun e => absurd e (by decide)) | refine Exists.intro _ (And.intro rfl ?_) | refine And.intro rfl ?_)
          refine r_refused (f := u2 f 0 6 0) ?_
          exact h2 _ _ _ (inv_fault hI)
      · have g : ¬ a ≤ f (9 + p.toNatClampNeg) 0 := g
        repeat (first | refine And.intro (fun e => absurd e (by decide)) (fun e => ?_) | refine And.intro (fun e => ?_) (fun e => absurd e (by decide)) | refine Exists.intro _ (And.intro rfl ?_) | refine And.intro rfl ?_)
        refine s_stopped (f := u2 f 0 6 0) ?_
        rw [uf]
        repeat (first | refine And.intro (fun e => absurd e (by decide)) (fun e => ?_) | refine And.intro (fun e => ?_) (fun e => absurd e (by decide)) | refine Exists.intro _ (And.intro rfl ?_) | refine And.intro rfl ?_)
        refine hP _ _ _ _ (fun P2 h2 => ?_)
        refine run_X9_as 60 ?_
        repeat (first | refine And.intro (fun e => absurd e (by decide)) (fun e => ?_) | refine And.intro (fun e => ?_) (fun e => absurd e (by decide)) | refine Exists.intro _ (And.intro rfl ?_) | refine And.intro rfl ?_)
        refine r_noPerson (f := u2 f 0 6 2) (by show 0 ≤ (f 42 1).toInt; rw [hn3]; exact hn1) (fun g1 g2 => ?_) (fun g1 => absurd ⟨c, by show _ < (f 42 1).toInt; rw [hn3]; exact d⟩ g1)
        repeat (first | refine And.intro (fun e => absurd e (by decide)) (fun e => ?_) | refine And.intro (fun e => ?_) (fun e => absurd e (by decide)) | refine Exists.intro _ (And.intro rfl ?_) | refine And.intro rfl ?_)
        refine s_in (x := a.toInt) (a := 0) (b := 2) l64 rfl rfl (fun g1 g2 => ?_) (fun g1 => absurd ⟨c1, by omega⟩ g1)
        repeat (first | refine And.intro (fun e => absurd e (by decide)) (fun e => ?_) | refine And.intro (fun e => ?_) (fun e => absurd e (by decide)) | refine Exists.intro _ (And.intro rfl ?_) | refine And.intro rfl ?_)
        refine Exists.intro _ (And.intro (ldI_of rfl c (by rw [m5]; exact k2)) ?_)
        rw [k4]
        refine And.intro (fun j => ?_) (fun j => ?_)
        · repeat (first | refine And.intro (fun e => absurd e (by decide)) (fun e => ?_) | refine And.intro (fun e => ?_) (fun e => absurd e (by decide)) | refine Exists.intro _ (And.intro rfl ?_) | refine And.intro rfl ?_)
          refine r_failed (f := u2 f 0 6 2) ?_
          exact h2 _ _ _ (inv_fault hI)
        · have j : ¬ f (9 + p.toNatClampNeg) 0 < a := j
          rw [le_i] at g
          rw [lt_i] at j
          omega
    · repeat (first | refine And.intro (fun e => absurd e (by decide)) (fun e => ?_) | refine And.intro (fun e => ?_) (fun e => absurd e (by decide)) | refine Exists.intro _ (And.intro rfl ?_) | refine And.intro rfl ?_)
      refine hP _ _ _ _ (fun P2 h2 => ?_)
      refine run_X9_as 60 ?_
      repeat (first | refine And.intro (fun e => absurd e (by decide)) (fun e => ?_) | refine And.intro (fun e => ?_) (fun e => absurd e (by decide)) | refine Exists.intro _ (And.intro rfl ?_) | refine And.intro rfl ?_)
      refine r_noPerson (f := u2 f 0 6 0) (by show 0 ≤ (f 42 1).toInt; rw [hn3]; exact hn1) (fun g1 g2 => ?_) (fun g1 => absurd ⟨c, by show _ < (f 42 1).toInt; rw [hn3]; exact d⟩ g1)
      repeat (first | refine And.intro (fun e => absurd e (by decide)) (fun e => ?_) | refine And.intro (fun e => ?_) (fun e => absurd e (by decide)) | refine Exists.intro _ (And.intro rfl ?_) | refine And.intro rfl ?_)
      refine s_in (x := a.toInt) (a := 0) (b := 2) l64 rfl rfl (fun g1 g2 => absurd ⟨g1, by omega⟩ c1) (fun g1 => ?_)
      repeat (first | refine And.intro (fun e => absurd e (by decide)) (fun e => ?_) | refine And.intro (fun e => ?_) (fun e => absurd e (by decide)) | refine Exists.intro _ (And.intro rfl ?_) | refine And.intro rfl ?_)
      refine r_refused (f := u2 f 0 6 0) ?_
      exact h2 _ _ _ (inv_fault hI)
  · repeat (first | refine And.intro (fun e => absurd e (by decide)) (fun e => ?_) | refine And.intro (fun e => ?_) (fun e => absurd e (by decide)) | refine Exists.intro _ (And.intro rfl ?_) | refine And.intro rfl ?_)
    refine hP _ _ _ _ (fun P2 h2 => ?_)
    refine run_X9_as 60 ?_
    repeat (first | refine And.intro (fun e => absurd e (by decide)) (fun e => ?_) | refine And.intro (fun e => ?_) (fun e => absurd e (by decide)) | refine Exists.intro _ (And.intro rfl ?_) | refine And.intro rfl ?_)
    refine r_noPerson (f := u2 f 0 6 0) (by show 0 ≤ (f 42 1).toInt; rw [hn3]; exact hn1) (fun g1 g2 => absurd ⟨g1, by have g2 : p.toInt < (f 42 1).toInt := g2; show _ < (f 2 3).toInt; rw [← hn3]; exact g2⟩ c) (fun g1 => ?_)
    repeat (first | refine And.intro (fun e => absurd e (by decide)) (fun e => ?_) | refine And.intro (fun e => ?_) (fun e => absurd e (by decide)) | refine Exists.intro _ (And.intro rfl ?_) | refine And.intro rfl ?_)
    refine r_refused (f := u2 f 0 6 0) ?_
    exact h2 _ _ _ (inv_fault hI)
theorem both_back {a : Int32} (hI : Inv f l q) : both scr ix_X8_back ix_X9_back [some (.ref 1), some (.int a)] [some (.ref 43), some (.int a)] f l q := by
  intro P hP
  obtain ⟨⟨⟨hn1, hn2, hn3⟩, hL, hE, hR⟩, hPp, hD, hM, hS⟩ := id hI
  obtain ⟨⟨d1, d2⟩, d3, d4⟩ := hD
  refine run_X8_back 60 ?_
  repeat (first | refine And.intro (fun e => absurd e (by decide)) (fun e => ?_) | refine And.intro (fun e => ?_) (fun e => absurd e (by decide)) | refine Exists.intro _ (And.intro rfl ?_) | refine And.intro rfl ?_)
  refine s_within (a := 0) (b := (f 29 3).toInt) rfl rfl (fun c1 c2 => ?_) (fun c1 => ?_)
  · have es : (f 29 3 - a).toInt = (f 29 3).toInt - a.toInt := fb_subI (by omega) (by omega)
    have hx := ix_i (x := f 29 3 - a) (by omega)
    have hy := ix_i d1
    repeat (first | refine And.intro (fun e => absurd e (by decide)) (fun e => ?_) | refine And.intro (fun e => ?_) (fun e => absurd e (by decide)) | refine Exists.intro _ (And.intro rfl ?_) | refine And.intro rfl ?_)
    refine hP _ (u2 f 29 3 (f 29 3 - a)) l q (fun P2 h2 => ?_)
    refine run_X9_back 60 ?_
    repeat (first | refine And.intro (fun e => absurd e (by decide)) (fun e => ?_) | refine And.intro (fun e => ?_) (fun e => absurd e (by decide)) | refine Exists.intro _ (And.intro rfl ?_) | refine And.intro rfl ?_)
    refine s_in (x := a.toInt) (a := 0) (b := (f 29 3).toInt) l64 rfl (by show (f 42 22).toInt64.toInt = _; rw [l64, d3]) (fun g1 g2 => ?_) (fun g1 => absurd ⟨c1, c2⟩ g1)
    repeat (first | refine And.intro (fun e => absurd e (by decide)) (fun e => ?_) | refine And.intro (fun e => ?_) (fun e => absurd e (by decide)) | refine Exists.intro _ (And.intro rfl ?_) | refine And.intro rfl ?_)
    have fin : ∀ y, y = f 29 3 - a → P2 (some (.int y)) (wW (u2 (u2 f 29 3 (f 29 3 - a)) 42 22 y) l q) := by
      intro y hy2
      subst hy2
      refine h2 _ _ _ ⟨⟨⟨hn1, hn2, hn3⟩, hL, hE, hR⟩, hPp, ⟨⟨?_, ?_⟩, rfl, ?_⟩, hM, hS⟩
      · show 0 ≤ (f 29 3 - a).toInt
        omega
      · show (f 29 3 - a).toInt ≤ 8
        omega
      · intro k hk
        have hk : k < (f 29 3 - a).toNatClampNeg := hk
        exact d4 k (by omega)
    exact fin _ (by show f 42 22 - a = _; rw [d3])
  · repeat (first | refine And.intro (fun e => absurd e (by decide)) (fun e => ?_) | refine And.intro (fun e => ?_) (fun e => absurd e (by decide)) | refine Exists.intro _ (And.intro rfl ?_) | refine And.intro rfl ?_)
    refine hP _ f l q (fun P2 h2 => ?_)
    refine run_X9_back 60 ?_
    repeat (first | refine And.intro (fun e => absurd e (by decide)) (fun e => ?_) | refine And.intro (fun e => ?_) (fun e => absurd e (by decide)) | refine Exists.intro _ (And.intro rfl ?_) | refine And.intro rfl ?_)
    refine s_in (x := a.toInt) (a := 0) (b := (f 29 3).toInt) l64 rfl (by show (f 42 22).toInt64.toInt = _; rw [l64, d3]) (fun g1 g2 => absurd ⟨g1, g2⟩ c1) (fun g1 => ?_)
    repeat (first | refine And.intro (fun e => absurd e (by decide)) (fun e => ?_) | refine And.intro (fun e => ?_) (fun e => absurd e (by decide)) | refine Exists.intro _ (And.intro rfl ?_) | refine And.intro rfl ?_)
    exact h2 f l q hI
theorem both_reading {p a : Int32} (hI : Inv f l q) : both scr ix_X8_reading ix_X9_reading [some (.ref 1), some (.int p), some (.int a)] [some (.ref 43), some (.int p), some (.int a)] f l q := by
  intro P hP
  obtain ⟨⟨⟨hn1, hn2, hn3⟩, hL, hE, hR⟩, hPp, hD, hM, hS⟩ := id hI
  obtain ⟨⟨d1, d2⟩, d3, d4⟩ := hD
  have z8 : (8 : Int32).toInt = 8 := rfl
  have z1 : (1 : Int32).toInt = 1 := rfl
  refine run_X8_reading 60 ?_
  repeat (first | refine And.intro (fun e => absurd e (by decide)) (fun e => ?_) | refine And.intro (fun e => ?_) (fun e => absurd e (by decide)) | refine Exists.intro _ (And.intro rfl ?_) | refine And.intro rfl ?_)
  refine s_personOf (b := 2) (Or.inl rfl) hn2 (fun c d => ?_) (fun c => ?_)
  · obtain ⟨⟨k1, k2, k3⟩, k4, k5, k6, k7⟩ := pfacts hI c d
    repeat (first | refine And.intro (fun e => absurd e (by decide)) (fun e => ?_) | refine And.intro (fun e => ?_) (fun e => absurd e (by decide)) | refine Exists.intro _ (And.intro rfl ?_) | refine And.intro rfl ?_)
    refine s_within (a := 0) (b := 20) rfl rfl (fun c1 c2 => ?_) (fun c1 => ?_)
    · repeat (first | refine And.intro (fun e => absurd e (by decide)) (fun e => ?_) | refine And.intro (fun e => ?_) (fun e => absurd e (by decide)) | refine Exists.intro _ (And.intro rfl ?_) | refine And.intro rfl ?_)
      refine run_X3_add 60 ?_
      repeat (first | refine And.intro (fun e => absurd e (by decide)) (fun e => ?_) | refine And.intro (fun e => ?_) (fun e => absurd e (by decide)) | refine Exists.intro _ (And.intro rfl ?_) | refine And.intro rfl ?_)
      refine And.intro (fun g => ?_) (fun g => ?_)
      · have g : f 29 3 < 8 := g
        rw [lt_i, z8] at g
        have hx := ix_i d1
        have es : (f 29 3 + 1).toInt = (f 29 3).toInt + 1 := by rw [fb_addI (by rw [z1]; omega) (by rw [z1]; omega), z1]
        repeat (first | refine And.intro (fun e => absurd e (by decide)) (fun e => ?_) | refine And.intro (fun e => ?_) (fun e => absurd e (by decide)) | refine Exists.intro _ (And.intro rfl ?_) | refine And.intro rfl ?_)
        refine Exists.intro (wW f (u1 l 30 ((l 30).set (f 29 3).toNatClampNeg p)) q) (And.intro ((stI_of rfl d1 (by rw [hL.2.2.1.1]; omega)).trans rfl) ?_)
        repeat (first | refine And.intro (fun e => absurd e (by decide)) (fun e => ?_) | refine And.intro (fun e => ?_) (fun e => absurd e (by decide)) | refine Exists.intro _ (And.intro rfl ?_) | refine And.intro rfl ?_)
        refine Exists.intro (wW f (u1 (u1 l 30 ((l 30).set (f 29 3).toNatClampNeg p)) 31 ((l 31).set (f 29 3).toNatClampNeg a)) q) (And.intro ((stI_of rfl d1 (by show (f 29 3).toInt < ((l 31).length : Nat); rw [hL.2.2.1.2]; omega)).trans rfl) ?_)
        repeat (first | refine And.intro (fun e => absurd e (by decide)) (fun e => ?_) | refine And.intro (fun e => ?_) (fun e => absurd e (by decide)) | refine Exists.intro _ (And.intro rfl ?_) | refine And.intro rfl ?_)
        refine hP _ (u2 f 29 3 (f 29 3 + 1)) (u1 (u1 l 30 ((l 30).set (f 29 3).toNatClampNeg p)) 31 ((l 31).set (f 29 3).toNatClampNeg a)) q (fun P2 h2 => ?_)
        refine run_X9_reading 80 ?_
        repeat (first | refine And.intro (fun e => absurd e (by decide)) (fun e => ?_) | refine And.intro (fun e => ?_) (fun e => absurd e (by decide)) | refine Exists.intro _ (And.intro rfl ?_) | refine And.intro rfl ?_)
        refine r_noPerson (f := u2 f 29 3 (f 29 3 + 1)) (by show 0 ≤ (f 42 1).toInt; rw [hn3]; exact hn1) (fun g1 g2 => ?_) (fun g1 => absurd ⟨c, by show _ < (f 42 1).toInt; rw [hn3]; exact d⟩ g1)
        repeat (first | refine And.intro (fun e => absurd e (by decide)) (fun e => ?_) | refine And.intro (fun e => ?_) (fun e => absurd e (by decide)) | refine Exists.intro _ (And.intro rfl ?_) | refine And.intro rfl ?_)
        refine s_in (x := a.toInt) (a := 0) (b := 20) l64 rfl rfl (fun g1 g2 => ?_) (fun g1 => absurd ⟨c1, c2⟩ g1)
        repeat (first | refine And.intro (fun e => absurd e (by decide)) (fun e => ?_) | refine And.intro (fun e => ?_) (fun e => absurd e (by decide)) | refine Exists.intro _ (And.intro rfl ?_) | refine And.intro rfl ?_)
        refine And.intro (fun j => ?_) (fun j => ?_)
        · repeat (first | refine And.intro (fun e => absurd e (by decide)) (fun e => ?_) | refine And.intro (fun e => ?_) (fun e => absurd e (by decide)) | refine Exists.intro _ (And.intro rfl ?_) | refine And.intro rfl ?_)
          have ei : (u2 f 29 3 (f 29 3 + 1)) 42 22 = f 29 3 := d3
          rw [ei]
          refine Exists.intro (wW (u2 f 29 3 (f 29 3 + 1)) (u1 (u1 (u1 l 30 ((l 30).set (f 29 3).toNatClampNeg p)) 31 ((l 31).set (f 29 3).toNatClampNeg a)) 60 ((l 60).set (f 29 3).toNatClampNeg p)) q) (And.intro ((stI_of rfl d1 (by show (f 29 3).toInt < ((l 60).length : Nat); rw [hE.2.2.1, hL.2.2.1.1]; omega)).trans rfl) ?_)
          repeat (first | refine And.intro (fun e => absurd e (by decide)) (fun e => ?_) | refine And.intro (fun e => ?_) (fun e => absurd e (by decide)) | refine Exists.intro _ (And.intro rfl ?_) | refine And.intro rfl ?_)
          rw [ei]
          refine Exists.intro (wW (u2 f 29 3 (f 29 3 + 1)) (u1 (u1 (u1 (u1 l 30 ((l 30).set (f 29 3).toNatClampNeg p)) 31 ((l 31).set (f 29 3).toNatClampNeg a)) 60 ((l 60).set (f 29 3).toNatClampNeg p)) 61 ((l 61).set (f 29 3).toNatClampNeg a)) q) (And.intro ((stI_of rfl d1 (by show (f 29 3).toInt < ((l 61).length : Nat); rw [hE.2.2.2, hL.2.2.1.2]; omega)).trans rfl) ?_)
          repeat (first | refine And.intro (fun e => absurd e (by decide)) (fun e => ?_) | refine And.intro (fun e => ?_) (fun e => absurd e (by decide)) | refine Exists.intro _ (And.intro rfl ?_) | refine And.intro rfl ?_)
          have fin : ∀ y, y = f 29 3 + 1 → P2 (some (.int (y - 1))) (wW (u2 (u2 f 29 3 (f 29 3 + 1)) 42 22 y) (u1 (u1 (u1 (u1 l 30 ((l 30).set (f 29 3).toNatClampNeg p)) 31 ((l 31).set (f 29 3).toNatClampNeg a)) 60 ((l 60).set (f 29 3).toNatClampNeg p)) 61 ((l 61).set (f 29 3).toNatClampNeg a)) q) := by
            intro y hy2
            subst hy2
            refine h2 _ _ _ ⟨⟨⟨hn1, hn2, hn3⟩, ⟨hL.1, hL.2.1, ⟨?_, ?_⟩, hL.2.2.2⟩, ⟨hE.1, hE.2.1, ?_, ?_⟩, hR⟩, hPp, ⟨⟨?_, ?_⟩, rfl, ?_⟩, hM, hS⟩
            · show ((l 30).set _ _).length = 8
              rw [List.length_set]; exact hL.2.2.1.1
            · show ((l 31).set _ _).length = 8
              rw [List.length_set]; exact hL.2.2.1.2
            · show (l 60).set _ _ = (l 30).set _ _
              rw [hE.2.2.1]
            · show (l 61).set _ _ = (l 31).set _ _
              rw [hE.2.2.2]
            · show 0 ≤ (f 29 3 + 1).toInt
              omega
            · show (f 29 3 + 1).toInt ≤ 8
              omega
            · intro k hk
              have hk : k < (f 29 3 + 1).toNatClampNeg := hk
              have hy3 := ix_i (x := f 29 3 + 1) (by omega)
              show 0 ≤ (((l 30).set (f 29 3).toNatClampNeg p).getD k 0).toInt ∧ (((l 30).set (f 29 3).toNatClampNeg p).getD k 0).toInt < (f 2 3).toInt
              rw [getD_set]
              split
              · exact ⟨c, d⟩
              · next hne =>
                refine d4 k ?_
                have : ¬ (f 29 3).toNatClampNeg = k := fun e => hne ⟨e, by rw [hL.2.2.1.1]; omega⟩
                omega
          exact fin _ (by show f 42 22 + 1 = _; rw [d3])
        · exfalso
          have j : (u2 f 29 3 (f 29 3 + 1)) 42 22 = 8 := Classical.not_not.mp j
          have j : f 42 22 = 8 := j
          rw [d3, eq_i, z8] at j
          omega
      · have g : ¬ f 29 3 < 8 := g
        rw [lt_i, z8] at g
        repeat (first | refine And.intro (fun e => absurd e (by decide)) (fun e => ?_) | refine And.intro (fun e => ?_) (fun e => absurd e (by decide)) | refine Exists.intro _ (And.intro rfl ?_) | refine And.intro rfl ?_)
        refine hP _ f l q (fun P2 h2 => ?_)
        refine run_X9_reading 80 ?_
        repeat (first | refine And.intro (fun e => absurd e (by decide)) (fun e => ?_) | refine And.intro (fun e => ?_) (fun e => absurd e (by decide)) | refine Exists.intro _ (And.intro rfl ?_) | refine And.intro rfl ?_)
        refine r_noPerson (by rw [hn3]; exact hn1) (fun g1 g2 => ?_) (fun g1 => absurd ⟨c, by rw [hn3]; exact d⟩ g1)
        repeat (first | refine And.intro (fun e => absurd e (by decide)) (fun e => ?_) | refine And.intro (fun e => ?_) (fun e => absurd e (by decide)) | refine Exists.intro _ (And.intro rfl ?_) | refine And.intro rfl ?_)
        refine s_in (x := a.toInt) (a := 0) (b := 20) l64 rfl rfl (fun g1 g2 => ?_) (fun g1 => absurd ⟨c1, c2⟩ g1)
        repeat (first | refine And.intro (fun e => absurd e (by decide)) (fun e => ?_) | refine And.intro (fun e => ?_) (fun e => absurd e (by decide)) | refine Exists.intro _ (And.intro rfl ?_) | refine And.intro rfl ?_)
        refine And.intro (fun j => ?_) (fun j => ?_)
        · exfalso
          have j : ¬ f 42 22 = 8 := j
          rw [d3, eq_i, z8] at j
          omega
        · repeat (first | refine And.intro (fun e => absurd e (by decide)) (fun e => ?_) | refine And.intro (fun e => ?_) (fun e => absurd e (by decide)) | refine Exists.intro _ (And.intro rfl ?_) | refine And.intro rfl ?_)
          exact h2 f l q hI
    · repeat (first | refine And.intro (fun e => absurd e (by decide)) (fun e => ?_) | refine And.intro (fun e => ?_) (fun e => absurd e (by decide)) | refine Exists.intro _ (And.intro rfl ?_) | refine And.intro rfl ?_)
      refine hP _ f l q (fun P2 h2 => ?_)
      refine run_X9_reading 80 ?_
      repeat (first | refine And.intro (fun e => absurd e (by decide)) (fun e => ?_) | refine And.intro (fun e => ?_) (fun e => absurd e (by decide)) | refine Exists.intro _ (And.intro rfl ?_) | refine And.intro rfl ?_)
      refine r_noPerson (by rw [hn3]; exact hn1) (fun g1 g2 => ?_) (fun g1 => absurd ⟨c, by rw [hn3]; exact d⟩ g1)
      repeat (first | refine And.intro (fun e => absurd e (by decide)) (fun e => ?_) | refine And.intro (fun e => ?_) (fun e => absurd e (by decide)) | refine Exists.intro _ (And.intro rfl ?_) | refine And.intro rfl ?_)
      refine s_in (x := a.toInt) (a := 0) (b := 20) l64 rfl rfl (fun g1 g2 => absurd ⟨g1, g2⟩ c1) (fun g1 => ?_)
      repeat (first | refine And.intro (fun e => absurd e (by decide)) (fun e => ?_) | refine And.intro (fun e => ?_) (fun e => absurd e (by decide)) | refine Exists.intro _ (And.intro rfl ?_) | refine And.intro rfl ?_)
      exact h2 f l q hI
  · repeat (first | refine And.intro (fun e => absurd e (by decide)) (fun e => ?_) | refine And.intro (fun e => ?_) (fun e => absurd e (by decide)) | refine Exists.intro _ (And.intro rfl ?_) | refine And.intro rfl ?_)
    refine hP _ f l q (fun P2 h2 => ?_)
    refine run_X9_reading 80 ?_
    repeat (first | refine And.intro (fun e => absurd e (by decide)) (fun e => ?_) | refine And.intro (fun e => ?_) (fun e => absurd e (by decide)) | refine Exists.intro _ (And.intro rfl ?_) | refine And.intro rfl ?_)
    refine r_noPerson (by rw [hn3]; exact hn1) (fun g1 g2 => absurd ⟨g1, by rw [← hn3]; exact g2⟩ c) (fun g1 => ?_)
    repeat (first | refine And.intro (fun e => absurd e (by decide)) (fun e => ?_) | refine And.intro (fun e => ?_) (fun e => absurd e (by decide)) | refine Exists.intro _ (And.intro rfl ?_) | refine And.intro rfl ?_)
    exact h2 f l q hI
end B8
