/-! method by method: the class's answer is the reference's (3) -/
section B3
variable {scr : Option (List Int32)} {P : ba_P} {w : ba_W} {f : Nat → Nat → Int32} {l : Nat → List Int32} {q : Nat → List Int64}
theorem s_washes {b p : Nat} (hb : b = 2 ∨ b = 16) (hp : p < 6) (hl : (l (b + 1)).length = 2) (hpv : pv (f (b + 7 + p)))
    (h0 : (l (b + 1)).getD (f (b + 7 + p) 1).toNatClampNeg 0 = 0 → P (some (.int 0)) (wW f l q))
    (h1 : ¬ (l (b + 1)).getD (f (b + 7 + p) 1).toNatClampNeg 0 = 0 → P (some (.int 1)) (wW (u2 f (b + 7 + p) 2 0) (u1 l (b + 1) ((l (b + 1)).set (f (b + 7 + p) 1).toNatClampNeg ((l (b + 1)).getD (f (b + 7 + p) 1).toNatClampNeg 0 - 1))) q)) :
    ba_go scr ix_X7_washes 0 [some (.ref (b + 1)), some (.ref (b + 7 + p + 1))] [] (wW f l q) 0 0 P := by
  have hat := ps_at (f := f) (l := l) (q := q) hb hp
  have hld : ∀ xs, ba_ldI xs (wW f l q) (b + 2) (f (b + 7 + p) 1) = some ((l (b + 1)).getD (f (b + 7 + p) 1).toNatClampNeg 0) := by
    intro xs
    rcases hb with rfl | rfl
    · exact ldI_of rfl hpv.2.1.1 (by have := hpv.2.1; rw [hl]; omega)
    · exact ldI_of rfl hpv.2.1.1 (by have := hpv.2.1; rw [hl]; omega)
  have hst : ∀ x, ba_stI (wW f l q) (b + 2) (f (b + 7 + p) 1) x = some (wW f (u1 l (b + 1) ((l (b + 1)).set (f (b + 7 + p) 1).toNatClampNeg x)) q) := by
    intro x
    rcases hb with rfl | rfl
    · exact (stI_of rfl hpv.2.1.1 (by have := hpv.2.1; rw [hl]; omega)).trans rfl
    · exact (stI_of rfl hpv.2.1.1 (by have := hpv.2.1; rw [hl]; omega)).trans rfl
  have hfl : ∀ l', ba_fld (wW f l' q) (b + 1) 6 0 = some (.ref (b + 2)) := by
    intro l'
    rcases hb with rfl | rfl <;> rfl
  refine run_X7_washes 80 ?_
  refine Exists.intro _ (And.intro (hfl l) ?_)
  refine Exists.intro _ (And.intro (fld_of hat rfl) ?_)
  refine Exists.intro _ (And.intro (hld _) ?_)
  refine And.intro (fun c => ?_) (fun c => ?_)
  · refine Exists.intro _ (And.intro (hfl l) ?_)
    refine Exists.intro _ (And.intro (fld_of hat rfl) ?_)
    refine Exists.intro _ (And.intro (hld _) ?_)
    refine Exists.intro _ (And.intro (hst _) ?_)
    refine Exists.intro _ (And.intro (ps_set hb hp (by decide)) ?_)
    exact And.intro rfl (h1 c)
  · exact And.intro rfl (h0 (Classical.not_not.mp c))
theorem r_washed {p : Int32} (hp : 0 ≤ p.toInt) (hp2 : p.toInt < 6) (hl : (l 43).length = 2) (hl6 : (l 46).length = 6) (hl7 : (l 47).length = 6) (ho : 0 ≤ ((l 46).getD p.toNatClampNeg 0).toInt ∧ ((l 46).getD p.toNatClampNeg 0).toInt ≤ 1)
    (h0 : ((l 43).getD ((l 46).getD p.toNatClampNeg 0).toNatClampNeg 0).toInt ≤ 0 → P (some (.int 0)) (wW f l q))
    (h1 : ¬ ((l 43).getD ((l 46).getD p.toNatClampNeg 0).toNatClampNeg 0).toInt ≤ 0 → P (some (.int 1)) (wW f (u1 (u1 l 43 ((l 43).set ((l 46).getD p.toNatClampNeg 0).toNatClampNeg ((l 43).getD ((l 46).getD p.toNatClampNeg 0).toNatClampNeg 0 - 1))) 47 ((l 47).set p.toNatClampNeg 0)) q)) :
    ba_go scr ix_X9_washed 0 [some (.ref 43), some (.int p), none] [] (wW f l q) 0 0 P := by
  have a6 : ∀ xs, ba_ldI xs (wW f l q) 47 p = some ((l 46).getD p.toNatClampNeg 0) := fun xs => ldI_of rfl hp (by rw [hl6]; exact hp2)
  have a7 : ∀ xs L, ba_ldI xs (wW f (u1 l 43 L) q) 48 p = some ((l 47).getD p.toNatClampNeg 0) := fun xs L => ldI_of rfl hp (by show p.toInt < ((l 47).length : Nat); rw [hl7]; exact hp2)
  generalize hog : (l 46).getD p.toNatClampNeg 0 = o at *
  have a3 : ∀ xs, ba_ldI xs (wW f l q) 44 o = some ((l 43).getD o.toNatClampNeg 0) := fun xs => ldI_of rfl ho.1 (by rw [hl]; omega)
  have w3 : ∀ x, ba_stI (wW f l q) 44 o x = some (wW f (u1 l 43 ((l 43).set o.toNatClampNeg x)) q) := fun x => (stI_of rfl ho.1 (by rw [hl]; omega)).trans rfl
  have w7 : ∀ x L, ba_stI (wW f (u1 l 43 L) q) 48 p x = some (wW f (u1 (u1 l 43 L) 47 ((l 47).set p.toNatClampNeg x)) q) := fun x L => (stI_of rfl hp (by show p.toInt < ((l 47).length : Nat); rw [hl7]; exact hp2)).trans rfl
  refine run_X9_washed 120 ?_
  repeat (first | refine And.intro (fun e => absurd e (by decide)) (fun e => ?_) | refine And.intro (fun e => ?_) (fun e => absurd e (by decide)) | refine Exists.intro _ (And.intro rfl ?_) | refine And.intro rfl ?_)
  refine Exists.intro _ (And.intro (a6 _) ?_)
  refine Exists.intro _ (And.intro (a3 _) ?_)
  refine And.intro (fun c => ?_) (fun c => ?_)
  · simp only [le_i, zi] at c
    repeat (first | refine And.intro (fun e => absurd e (by decide)) (fun e => ?_) | refine And.intro (fun e => ?_) (fun e => absurd e (by decide)) | refine Exists.intro _ (And.intro rfl ?_) | refine And.intro rfl ?_)
    refine Exists.intro _ (And.intro (a6 _) ?_)
    refine Exists.intro _ (And.intro (a3 _) ?_)
    repeat (first | refine And.intro (fun e => absurd e (by decide)) (fun e => ?_) | refine And.intro (fun e => ?_) (fun e => absurd e (by decide)) | refine Exists.intro _ (And.intro rfl ?_) | refine And.intro rfl ?_)
    refine Exists.intro _ (And.intro (w3 _) ?_)
    repeat (first | refine And.intro (fun e => absurd e (by decide)) (fun e => ?_) | refine And.intro (fun e => ?_) (fun e => absurd e (by decide)) | refine Exists.intro _ (And.intro rfl ?_) | refine And.intro rfl ?_)
    refine Exists.intro _ (And.intro (a7 _ _) ?_)
    refine Exists.intro _ (And.intro (w7 _ _) ?_)
    refine And.intro rfl ?_
    have e1 : (l 43).set o.toNatClampNeg ((l 43).getD o.toNatClampNeg 0 - Int32.ofInt 0) = l 43 := by
      have : ∀ x : Int32, x - Int32.ofInt 0 = x := fun x => Int32.sub_zero x
      rw [this, set_self]
    have h3 := h0 c
    rw [show wW f l q = wW f (u1 (u1 l 43 (l 43)) 47 ((u1 l 43 (l 43)) 47)) q from by rw [u1_self, u1_self]] at h3
    rw [e1, set_self]
    exact h3
  · simp only [le_i, zi] at c
    repeat (first | refine And.intro (fun e => absurd e (by decide)) (fun e => ?_) | refine And.intro (fun e => ?_) (fun e => absurd e (by decide)) | refine Exists.intro _ (And.intro rfl ?_) | refine And.intro rfl ?_)
    refine Exists.intro _ (And.intro (a6 _) ?_)
    refine Exists.intro _ (And.intro (a3 _) ?_)
    repeat (first | refine And.intro (fun e => absurd e (by decide)) (fun e => ?_) | refine And.intro (fun e => ?_) (fun e => absurd e (by decide)) | refine Exists.intro _ (And.intro rfl ?_) | refine And.intro rfl ?_)
    refine Exists.intro _ (And.intro (w3 _) ?_)
    repeat (first | refine And.intro (fun e => absurd e (by decide)) (fun e => ?_) | refine And.intro (fun e => ?_) (fun e => absurd e (by decide)) | refine Exists.intro _ (And.intro rfl ?_) | refine And.intro rfl ?_)
    refine Exists.intro _ (And.intro (w7 _ _) ?_)
    refine And.intro rfl ?_
    exact h1 c
theorem both_wash {p : Int32} (hI : Inv f l q) : both scr ix_X8_wash ix_X9_wash [some (.ref 1), some (.int p), none, none] [some (.ref 43), some (.int p), none] f l q := by
  intro P hP
  obtain ⟨⟨⟨hn1, hn2, hn3⟩, hL, hE, hR⟩, hPp, hD, hM, hS⟩ := id hI
  obtain ⟨⟨m3, m4⟩, m5, m6, m7, m8⟩ := plens hI
  refine run_X8_wash 60 ?_
  repeat (first | refine And.intro (fun e => absurd e (by decide)) (fun e => ?_) | refine And.intro (fun e => ?_) (fun e => absurd e (by decide)) | refine Exists.intro _ (And.intro rfl ?_) | refine And.intro rfl ?_)
  refine s_personOf (b := 2) (Or.inl rfl) hn2 (fun c d => ?_) (fun c => ?_)
  · obtain ⟨⟨k1, k2, k3⟩, k4, k5, k6, k7⟩ := pfacts hI c d
    have hn := hR.2 (f (9 + p.toNatClampNeg) 1).toNatClampNeg (by have := ix_i k3.2.1.1; have := k3.2.1; omega)
    repeat (first | refine And.intro (fun e => absurd e (by decide)) (fun e => ?_) | refine And.intro (fun e => ?_) (fun e => absurd e (by decide)) | refine Exists.intro _ (And.intro rfl ?_) | refine And.intro rfl ?_)
    refine Exists.intro _ (And.intro (fld_of (people_at k1) rfl) ?_)
    repeat (first | refine And.intro (fun e => absurd e (by decide)) (fun e => ?_) | refine And.intro (fun e => ?_) (fun e => absurd e (by decide)) | refine Exists.intro _ (And.intro rfl ?_) | refine And.intro rfl ?_)
    refine s_washes (b := 2) (Or.inl rfl) k1 hL.1.1 k3 (fun g => ?_) (fun g => ?_)
    · repeat (first | refine And.intro (fun e => absurd e (by decide)) (fun e => ?_) | refine And.intro (fun e => ?_) (fun e => absurd e (by decide)) | refine Exists.intro _ (And.intro rfl ?_) | refine And.intro rfl ?_)
      refine hP _ f l q (fun P2 h2 => ?_)
      refine run_X9_wash 60 ?_
      repeat (first | refine And.intro (fun e => absurd e (by decide)) (fun e => ?_) | refine And.intro (fun e => ?_) (fun e => absurd e (by decide)) | refine Exists.intro _ (And.intro rfl ?_) | refine And.intro rfl ?_)
      refine r_noPerson (by rw [hn3]; exact hn1) (fun g1 g2 => ?_) (fun g1 => absurd ⟨c, by rw [hn3]; exact d⟩ g1)
      repeat (first | refine And.intro (fun e => absurd e (by decide)) (fun e => ?_) | refine And.intro (fun e => ?_) (fun e => absurd e (by decide)) | refine Exists.intro _ (And.intro rfl ?_) | refine And.intro rfl ?_)
      refine Exists.intro _ (And.intro (ldI_of rfl c (by rw [m7]; exact k2)) ?_)
      repeat (first | refine And.intro (fun e => absurd e (by decide)) (fun e => ?_) | refine And.intro (fun e => ?_) (fun e => absurd e (by decide)) | refine Exists.intro _ (And.intro rfl ?_) | refine And.intro rfl ?_)
      refine r_washed c k2 m3 m6 m7 (by rw [k5]; exact k3.2.1) (fun j => ?_) (fun j => absurd (by
        rw [k5, hE.1.1]
        have g : (l 3).getD (f (9 + p.toNatClampNeg) 1).toNatClampNeg 0 = 0 := g
        rw [g]; decide) j)
      repeat (first | refine And.intro (fun e => absurd e (by decide)) (fun e => ?_) | refine And.intro (fun e => ?_) (fun e => absurd e (by decide)) | refine Exists.intro _ (And.intro rfl ?_) | refine And.intro rfl ?_)
      exact h2 f l q hI
    · repeat (first | refine And.intro (fun e => absurd e (by decide)) (fun e => ?_) | refine And.intro (fun e => ?_) (fun e => absurd e (by decide)) | refine Exists.intro _ (And.intro rfl ?_) | refine And.intro rfl ?_)
      have g : ¬ (l 3).getD (f (9 + p.toNatClampNeg) 1).toNatClampNeg 0 = 0 := g
      have g' := g
      rw [eq_i, zi] at g'
      refine hP _ _ _ _ (fun P2 h2 => ?_)
      have e1 : (u2 f (2 + 7 + p.toNatClampNeg) 2 0) 42 1 = f 42 1 := u2_ne (by omega)
      refine run_X9_wash 60 ?_
      repeat (first | refine And.intro (fun e => absurd e (by decide)) (fun e => ?_) | refine And.intro (fun e => ?_) (fun e => absurd e (by decide)) | refine Exists.intro _ (And.intro rfl ?_) | refine And.intro rfl ?_)
      refine r_noPerson (by rw [e1, hn3]; exact hn1) (fun g1 g2 => ?_) (fun g1 => absurd ⟨c, by rw [e1, hn3]; exact d⟩ g1)
      repeat (first | refine And.intro (fun e => absurd e (by decide)) (fun e => ?_) | refine And.intro (fun e => ?_) (fun e => absurd e (by decide)) | refine Exists.intro _ (And.intro rfl ?_) | refine And.intro rfl ?_)
      refine Exists.intro _ (And.intro (ldI_of rfl c (by show p.toInt < ((l 47).length : Nat); rw [m7]; exact k2)) ?_)
      repeat (first | refine And.intro (fun e => absurd e (by decide)) (fun e => ?_) | refine And.intro (fun e => ?_) (fun e => absurd e (by decide)) | refine Exists.intro _ (And.intro rfl ?_) | refine And.intro rfl ?_)
      refine r_washed c k2 m3 m6 m7 (by show 0 ≤ ((l 46).getD _ 0).toInt ∧ ((l 46).getD _ 0).toInt ≤ 1; rw [k5]; exact k3.2.1) (fun j => ?_) (fun j => ?_)
      · exfalso
        have j : ((l 43).getD ((l 46).getD p.toNatClampNeg 0).toNatClampNeg 0).toInt ≤ 0 := j
        rw [k5, hE.1.1] at j
        omega
      · repeat (first | refine And.intro (fun e => absurd e (by decide)) (fun e => ?_) | refine And.intro (fun e => ?_) (fun e => absurd e (by decide)) | refine Exists.intro _ (And.intro rfl ?_) | refine And.intro rfl ?_)
        have e2 : ((l 3).getD (f (9 + p.toNatClampNeg) 1).toNatClampNeg 0 - 1).toInt = ((l 3).getD (f (9 + p.toNatClampNeg) 1).toNatClampNeg 0).toInt - 1 := fb_subI (by show _ ≤ _ - (1 : Int); omega) (by show _ - (1 : Int) < _; omega)
        have i1 := inv_ink (i := (f (9 + p.toNatClampNeg) 1).toNatClampNeg) (v := (l 3).getD (f (9 + p.toNatClampNeg) 1).toNatClampNeg 0 - 1) (by rw [e2]; omega) (by rw [e2]; omega) hI
        have i2 := inv_mark (v := 0) k1 (by decide) (by decide) i1
        have h3 := h2 _ _ _ i2
        have k5' : (l 46).getD p.toNatClampNeg 0 = f (9 + p.toNatClampNeg) 1 := k5
        have e4 : (l 43).getD (f (9 + p.toNatClampNeg) 1).toNatClampNeg 0 = (l 3).getD (f (9 + p.toNatClampNeg) 1).toNatClampNeg 0 := by rw [hE.1.1]
        rw [← e4] at h3
        rw [← k6, ← k5] at h3
        rw [← k5]
        have e5 : (l 3).getD ((l 46).getD p.toNatClampNeg 0).toNatClampNeg 0 = (l 43).getD ((l 46).getD p.toNatClampNeg 0).toNatClampNeg 0 := by rw [hE.1.1]
        rw [e5]
        exact h3
  · repeat (first | refine And.intro (fun e => absurd e (by decide)) (fun e => ?_) | refine And.intro (fun e => ?_) (fun e => absurd e (by decide)) | refine Exists.intro _ (And.intro rfl ?_) | refine And.intro rfl ?_)
    refine hP _ f l q (fun P2 h2 => ?_)
    refine run_X9_wash 60 ?_
    repeat (first | refine And.intro (fun e => absurd e (by decide)) (fun e => ?_) | refine And.intro (fun e => ?_) (fun e => absurd e (by decide)) | refine Exists.intro _ (And.intro rfl ?_) | refine And.intro rfl ?_)
    refine r_noPerson (by rw [hn3]; exact hn1) (fun g1 g2 => absurd ⟨g1, by rw [← hn3]; exact g2⟩ c) (fun g1 => ?_)
    repeat (first | refine And.intro (fun e => absurd e (by decide)) (fun e => ?_) | refine And.intro (fun e => ?_) (fun e => absurd e (by decide)) | refine Exists.intro _ (And.intro rfl ?_) | refine And.intro rfl ?_)
    exact h2 f l q hI
end B3
