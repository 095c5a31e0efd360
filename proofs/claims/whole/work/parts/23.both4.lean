/-! method by method: the class's answer is the reference's (4) -/
section B4
variable {scr : Option (List Int32)} {P : ba_P} {w : ba_W} {f : Nat → Nat → Int32} {l : Nat → List Int32} {q : Nat → List Int64}
theorem three {m : Int32} (h1 : 0 ≤ m.toInt) (h2 : m.toInt ≤ 2) : m = 0 ∨ m = 1 ∨ m = 2 := by
  simp only [eq_i]
  have e0 : (0 : Int32).toInt = 0 := rfl
  have e1 : (1 : Int32).toInt = 1 := rfl
  have e2 : (2 : Int32).toInt = 2 := rfl
  omega
theorem tk_i {k n : Int32} (hk : 0 ≤ k.toInt ∧ k.toInt ≤ 2) (hn : 0 ≤ n.toInt ∧ n.toInt ≤ 9) : 0 ≤ (tk k n).toInt ∧ (tk k n).toInt ≤ 20 := by
  have e1 : (1 : Int32).toInt = 1 := rfl
  have e2 : (2 : Int32).toInt = 2 := rfl
  have a : (n + 1).toInt = n.toInt + 1 := by rw [fb_addI (by rw [e1]; omega) (by rw [e1]; omega), e1]
  have b : (2 * (n + 1)).toInt = 2 * (n.toInt + 1) := by rw [fb_mulI (by rw [e2, a]; omega) (by rw [e2, a]; omega), e2, a]
  unfold tk
  split
  · omega
  · split
    · omega
    · omega
theorem rl_i {L : List Int32} {m s : Int32} (h : rv L) (h1 : 0 ≤ m.toInt) (h2 : m.toInt ≤ 3) (h3 : 0 ≤ s.toInt) (h4 : s.toInt ≤ 2) : 0 ≤ (rl L m s).toInt ∧ (rl L m s).toInt ≤ 3 := by
  have hi := idx3 h1 h2 h3 h4
  exact h _ (by have := ix_i (x := m * 3 + s) (by omega); omega)
theorem both_strike {p s : Int32} (hI : Inv f l q) : both scr ix_X8_strike ix_X9_strike [some (.ref 1), some (.int p), some (.int s), none] [some (.ref 43), some (.int p), some (.int s)] f l q := by
  intro P hP
  obtain ⟨⟨⟨hn1, hn2, hn3⟩, hL, hE, hR⟩, hPp, hD, hM, hS⟩ := id hI
  obtain ⟨⟨m3, m4⟩, m5, m6, m7, m8⟩ := plens hI
  refine run_X8_strike 60 ?_
  repeat (first | refine And.intro (fun e => absurd e (by decide)) (fun e => ?_) | refine And.intro (fun e => ?_) (fun e => absurd e (by decide)) | refine Exists.intro _ (And.intro rfl ?_) | refine And.intro rfl ?_)
  refine s_personOf (b := 2) (Or.inl rfl) hn2 (fun c d => ?_) (fun c => ?_)
  · obtain ⟨⟨k1, k2, k3⟩, k4, k5, k6, k7⟩ := pfacts hI c d
    have kn := hR.2 (1 - f (9 + p.toNatClampNeg) 1).toNatClampNeg (by have h9 := ow k3.2.1.1 k3.2.1.2; have h8 := k3.2.1; have h7 := ix_i (x := 1 - f (9 + p.toNatClampNeg) 1) (by omega); omega)
    have kt := tk_i k3.1 k3.2.2.2
    repeat (first | refine And.intro (fun e => absurd e (by decide)) (fun e => ?_) | refine And.intro (fun e => ?_) (fun e => absurd e (by decide)) | refine Exists.intro _ (And.intro rfl ?_) | refine And.intro rfl ?_)
    refine s_below (bi := 3) rfl (fun c1 c2 => ?_) (fun c1 => ?_)
    · have km := rl_i hR.1 k3.2.2.1.1 k3.2.2.1.2 c1 (by omega)
      repeat (first | refine And.intro (fun e => absurd e (by decide)) (fun e => ?_) | refine And.intro (fun e => ?_) (fun e => absurd e (by decide)) | refine Exists.intro _ (And.intro rfl ?_) | refine And.intro rfl ?_)
      refine s_strikes (b := 2) (Or.inl rfl) k1 hL.1.1 hL.1.2.1 k3 c1 (by omega) (fun g => ?_) (fun g => ?_)
      · repeat (first | refine And.intro (fun e => absurd e (by decide)) (fun e => ?_) | refine And.intro (fun e => ?_) (fun e => absurd e (by decide)) | refine Exists.intro _ (And.intro rfl ?_) | refine And.intro rfl ?_)
        refine hP _ f l q (fun P2 h2 => ?_)
        refine run_X9_strike 60 ?_
        repeat (first | refine And.intro (fun e => absurd e (by decide)) (fun e => ?_) | refine And.intro (fun e => ?_) (fun e => absurd e (by decide)) | refine Exists.intro _ (And.intro rfl ?_) | refine And.intro rfl ?_)
        refine r_noPerson (by rw [hn3]; exact hn1) (fun g1 g2 => ?_) (fun g1 => absurd ⟨c, by rw [hn3]; exact d⟩ g1)
        repeat (first | refine And.intro (fun e => absurd e (by decide)) (fun e => ?_) | refine And.intro (fun e => ?_) (fun e => absurd e (by decide)) | refine Exists.intro _ (And.intro rfl ?_) | refine And.intro rfl ?_)
        refine s_isStamp (fun g1 g2 => ?_) (fun g1 => absurd ⟨c1, by omega⟩ g1)
        repeat (first | refine And.intro (fun e => absurd e (by decide)) (fun e => ?_) | refine And.intro (fun e => ?_) (fun e => absurd e (by decide)) | refine Exists.intro _ (And.intro rfl ?_) | refine And.intro rfl ?_)
        refine r_struck c k2 m3 m4 m5 m6 m7 m8 (by rw [k5]; exact k3.2.1) (by rw [k6]; exact k3.2.2.1) c1 (by omega) (fun j => ?_) (fun j => absurd (by rw [hE.1.1, k4, k5, k7]; exact g) j)
        repeat (first | refine And.intro (fun e => absurd e (by decide)) (fun e => ?_) | refine And.intro (fun e => ?_) (fun e => absurd e (by decide)) | refine Exists.intro _ (And.intro rfl ?_) | refine And.intro rfl ?_)
        exact h2 f l q hI
      · have g : ¬ ((l 3).getD (1 - f (9 + p.toNatClampNeg) 1).toNatClampNeg 0).toInt < (tk (f (9 + p.toNatClampNeg) 0) (f (9 + p.toNatClampNeg) 3)).toInt := g
        repeat (first | refine And.intro (fun e => absurd e (by decide)) (fun e => ?_) | refine And.intro (fun e => ?_) (fun e => absurd e (by decide)) | refine Exists.intro _ (And.intro rfl ?_) | refine And.intro rfl ?_)
        refine Exists.intro _ (And.intro (fld_of (people_at (f := u2 (u2 f (2 + 7 + p.toNatClampNeg) 2 (rl (l (2 + 3)) (f (2 + 7 + p.toNatClampNeg) 2) s)) 0 5 ((u2 f (2 + 7 + p.toNatClampNeg) 2 (rl (l (2 + 3)) (f (2 + 7 + p.toNatClampNeg) 2) s)) 0 5 + 1)) (l := u1 l (2 + 1) ((l (2 + 1)).set (1 - f (2 + 7 + p.toNatClampNeg) 1).toNatClampNeg ((l (2 + 1)).getD (1 - f (2 + 7 + p.toNatClampNeg) 1).toNatClampNeg 0 - tk (f (2 + 7 + p.toNatClampNeg) 0) (f (2 + 7 + p.toNatClampNeg) 3)))) (q := q) k1) rfl) ?_)
        refine hP _ (u2 (u2 f (2 + 7 + p.toNatClampNeg) 2 (rl (l (2 + 3)) (f (2 + 7 + p.toNatClampNeg) 2) s)) 0 5 ((u2 f (2 + 7 + p.toNatClampNeg) 2 (rl (l (2 + 3)) (f (2 + 7 + p.toNatClampNeg) 2) s)) 0 5 + 1)) (u1 l (2 + 1) ((l (2 + 1)).set (1 - f (2 + 7 + p.toNatClampNeg) 1).toNatClampNeg ((l (2 + 1)).getD (1 - f (2 + 7 + p.toNatClampNeg) 1).toNatClampNeg 0 - tk (f (2 + 7 + p.toNatClampNeg) 0) (f (2 + 7 + p.toNatClampNeg) 3)))) q (fun P2 h2 => ?_)
        have e0 : ∀ v a b, (u2 f (2 + 7 + p.toNatClampNeg) 2 v) 42 a = f 42 a ∧ (u2 f (2 + 7 + p.toNatClampNeg) 2 v) 0 b = f 0 b := fun v a b => ⟨u2_ne (by omega), u2_ne (by omega)⟩
        refine run_X9_strike 60 ?_
        repeat (first | refine And.intro (fun e => absurd e (by decide)) (fun e => ?_) | refine And.intro (fun e => ?_) (fun e => absurd e (by decide)) | refine Exists.intro _ (And.intro rfl ?_) | refine And.intro rfl ?_)
        refine r_noPerson (by show 0 ≤ ((u2 f (2 + 7 + p.toNatClampNeg) 2 _) 42 1).toInt; rw [(e0 _ 1 1).1, hn3]; exact hn1) (fun g1 g2 => ?_) (fun g1 => absurd ⟨c, by show p.toInt < ((u2 f (2 + 7 + p.toNatClampNeg) 2 _) 42 1).toInt; rw [(e0 _ 1 1).1, hn3]; exact d⟩ g1)
        repeat (first | refine And.intro (fun e => absurd e (by decide)) (fun e => ?_) | refine And.intro (fun e => ?_) (fun e => absurd e (by decide)) | refine Exists.intro _ (And.intro rfl ?_) | refine And.intro rfl ?_)
        refine s_isStamp (fun g1 g2 => ?_) (fun g1 => absurd ⟨c1, by omega⟩ g1)
        repeat (first | refine And.intro (fun e => absurd e (by decide)) (fun e => ?_) | refine And.intro (fun e => ?_) (fun e => absurd e (by decide)) | refine Exists.intro _ (And.intro rfl ?_) | refine And.intro rfl ?_)
        refine r_struck c k2 m3 m4 m5 m6 m7 m8 (by show 0 ≤ ((l 46).getD _ 0).toInt ∧ ((l 46).getD _ 0).toInt ≤ 1; rw [k5]; exact k3.2.1) (by show 0 ≤ ((l 47).getD _ 0).toInt ∧ ((l 47).getD _ 0).toInt ≤ 3; rw [k6]; exact k3.2.2.1) c1 (by omega) (fun j => ?_) (fun j => ?_)
        · exfalso
          have j : ((l 43).getD (1 - (l 46).getD p.toNatClampNeg 0).toNatClampNeg 0).toInt < (tk ((l 45).getD p.toNatClampNeg 0) ((l 48).getD p.toNatClampNeg 0)).toInt := j
          rw [hE.1.1, k4, k5, k7] at j
          omega
        · repeat (first | refine And.intro (fun e => absurd e (by decide)) (fun e => ?_) | refine And.intro (fun e => ?_) (fun e => absurd e (by decide)) | refine Exists.intro _ (And.intro rfl ?_) | refine And.intro rfl ?_)
          refine Exists.intro _ (And.intro (ldI_of rfl c (by show p.toInt < ((List.set _ _ _).length : Nat); rw [List.length_set]; show p.toInt < ((l 47).length : Nat); rw [m7]; exact k2)) ?_)
          have e2 : ((l 3).getD (1 - f (9 + p.toNatClampNeg) 1).toNatClampNeg 0 - tk (f (9 + p.toNatClampNeg) 0) (f (9 + p.toNatClampNeg) 3)).toInt = ((l 3).getD (1 - f (9 + p.toNatClampNeg) 1).toNatClampNeg 0).toInt - (tk (f (9 + p.toNatClampNeg) 0) (f (9 + p.toNatClampNeg) 3)).toInt := fb_subI (by omega) (by omega)
          have i1 := inv_ink (i := (1 - f (9 + p.toNatClampNeg) 1).toNatClampNeg) (v := (l 3).getD (1 - f (9 + p.toNatClampNeg) 1).toNatClampNeg 0 - tk (f (9 + p.toNatClampNeg) 0) (f (9 + p.toNatClampNeg) 3)) (by rw [e2]; omega) (by rw [e2]; omega) hI
          have i2 := inv_mark (v := rl (l 5) (f (9 + p.toNatClampNeg) 2) s) k1 km.1 km.2 i1
          have i3 := inv_strikes (v := (u2 f (9 + p.toNatClampNeg) 2 (rl (l 5) (f (9 + p.toNatClampNeg) 2) s)) 0 5 + 1) i2
          have h3 := h2 _ _ _ i3
          have e5 : (u2 f (9 + p.toNatClampNeg) 2 (rl (l 5) (f (9 + p.toNatClampNeg) 2) s)) 0 5 = (u2 f (9 + p.toNatClampNeg) 2 (rl (l 5) (f (9 + p.toNatClampNeg) 2) s)) 42 2 := by rw [u2_ne (by omega), u2_ne (by omega), hM.1]
          have ea : ((l 47).set p.toNatClampNeg (rl (l 5) (f (9 + p.toNatClampNeg) 2) s)).getD p.toNatClampNeg 0 = (u2 f (9 + p.toNatClampNeg) 2 (rl (l 5) (f (9 + p.toNatClampNeg) 2) s)) (9 + p.toNatClampNeg) 2 := by
            rw [getD_set, if_pos ⟨rfl, by rw [m7]; exact k1⟩]
            unfold u2
            rw [Nat.beq_refl]
            rfl
          have eb : ∀ x, (u2 (u2 f (9 + p.toNatClampNeg) 2 (rl (l 5) (f (9 + p.toNatClampNeg) 2) s)) 0 5 x) (9 + p.toNatClampNeg) 2 = (u2 f (9 + p.toNatClampNeg) 2 (rl (l 5) (f (9 + p.toNatClampNeg) 2) s)) (9 + p.toNatClampNeg) 2 := fun x => u2_ne (by omega)
          have a1 : rl (l 44) ((l 47).getD p.toNatClampNeg 0) s = rl (l 5) (f (9 + p.toNatClampNeg) 2) s := by rw [hE.1.2, k6]
          have a2 : (l 43).getD (1 - (l 46).getD p.toNatClampNeg 0).toNatClampNeg 0 - tk ((l 45).getD p.toNatClampNeg 0) ((l 48).getD p.toNatClampNeg 0) = (l 3).getD (1 - f (9 + p.toNatClampNeg) 1).toNatClampNeg 0 - tk (f (9 + p.toNatClampNeg) 0) (f (9 + p.toNatClampNeg) 3) := by rw [hE.1.1, k4, k5, k7]
          have goalW : ∀ (A B : Int32) (o : Int32) (X : Int32), A = rl (l 5) (f (9 + p.toNatClampNeg) 2) s → B = (l 3).getD (1 - f (9 + p.toNatClampNeg) 1).toNatClampNeg 0 - tk (f (9 + p.toNatClampNeg) 0) (f (9 + p.toNatClampNeg) 3) → o = f (9 + p.toNatClampNeg) 1 → X = (u2 f (9 + p.toNatClampNeg) 2 (rl (l 5) (f (9 + p.toNatClampNeg) 2) s)) 0 5 + 1 → P2 (some (.int (((l 47).set p.toNatClampNeg A).getD p.toNatClampNeg 0))) (wW (u2 (u2 (u2 f (9 + p.toNatClampNeg) 2 (rl (l 5) (f (9 + p.toNatClampNeg) 2) s)) 0 5 ((u2 f (9 + p.toNatClampNeg) 2 (rl (l 5) (f (9 + p.toNatClampNeg) 2) s)) 0 5 + 1)) 42 2 X) (u1 (u1 (u1 l 3 ((l 3).set (1 - f (9 + p.toNatClampNeg) 1).toNatClampNeg ((l 3).getD (1 - f (9 + p.toNatClampNeg) 1).toNatClampNeg 0 - tk (f (9 + p.toNatClampNeg) 0) (f (9 + p.toNatClampNeg) 3)))) 43 ((l 43).set (1 - o).toNatClampNeg B)) 47 ((l 47).set p.toNatClampNeg A)) q) := by
            intro A B o X hA hB ho hX
            subst hA; subst hB; subst ho; subst hX
            rw [ea, ← eb]
            exact h3
          exact goalW _ _ _ _ a1 a2 k5 (by show (u2 f (9 + p.toNatClampNeg) 2 (rl (l 5) (f (9 + p.toNatClampNeg) 2) s)) 42 2 + 1 = _; rw [e5])
    · repeat (first | refine And.intro (fun e => absurd e (by decide)) (fun e => ?_) | refine And.intro (fun e => ?_) (fun e => absurd e (by decide)) | refine Exists.intro _ (And.intro rfl ?_) | refine And.intro rfl ?_)
      refine hP _ f l q (fun P2 h2 => ?_)
      refine run_X9_strike 60 ?_
      repeat (first | refine And.intro (fun e => absurd e (by decide)) (fun e => ?_) | refine And.intro (fun e => ?_) (fun e => absurd e (by decide)) | refine Exists.intro _ (And.intro rfl ?_) | refine And.intro rfl ?_)
      refine r_noPerson (by rw [hn3]; exact hn1) (fun g1 g2 => ?_) (fun g1 => absurd ⟨c, by rw [hn3]; exact d⟩ g1)
      repeat (first | refine And.intro (fun e => absurd e (by decide)) (fun e => ?_) | refine And.intro (fun e => ?_) (fun e => absurd e (by decide)) | refine Exists.intro _ (And.intro rfl ?_) | refine And.intro rfl ?_)
      refine s_isStamp (fun g1 g2 => absurd ⟨g1, by omega⟩ c1) (fun g1 => ?_)
      repeat (first | refine And.intro (fun e => absurd e (by decide)) (fun e => ?_) | refine And.intro (fun e => ?_) (fun e => absurd e (by decide)) | refine Exists.intro _ (And.intro rfl ?_) | refine And.intro rfl ?_)
      exact h2 f l q hI
  · repeat (first | refine And.intro (fun e => absurd e (by decide)) (fun e => ?_) | refine And.intro (fun e => ?_) (fun e => absurd e (by decide)) | refine Exists.intro _ (And.intro rfl ?_) | refine And.intro rfl ?_)
    refine hP _ f l q (fun P2 h2 => ?_)
    refine run_X9_strike 60 ?_
    repeat (first | refine And.intro (fun e => absurd e (by decide)) (fun e => ?_) | refine And.intro (fun e => ?_) (fun e => absurd e (by decide)) | refine Exists.intro _ (And.intro rfl ?_) | refine And.intro rfl ?_)
    refine r_noPerson (by rw [hn3]; exact hn1) (fun g1 g2 => absurd ⟨g1, by rw [← hn3]; exact g2⟩ c) (fun g1 => ?_)
    repeat (first | refine And.intro (fun e => absurd e (by decide)) (fun e => ?_) | refine And.intro (fun e => ?_) (fun e => absurd e (by decide)) | refine Exists.intro _ (And.intro rfl ?_) | refine And.intro rfl ?_)
    exact h2 f l q hI
end B4
