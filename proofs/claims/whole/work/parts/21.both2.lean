/-! method by method: the class's answer is the reference's (2): people -/
theorem ba_sw_mk {x : Int} {k : Nat → Prop} : ∀ (l : List Nat) (lo : Int), (∀ (j t : Nat), l[j]? = some t → x = lo + j → k t) → ba_sw x k lo l
  | [], _, _ => trivial
  | t :: l, lo, h => ⟨fun e => h 0 t rfl (by omega), ba_sw_mk l (lo + 1) (fun j t' ht he => h (j + 1) t' ht (by omega))⟩
section B2
variable {scr : Option (List Int32)} {P : ba_P} {w : ba_W} {f : Nat → Nat → Int32} {l : Nat → List Int32} {q : Nat → List Int64}
theorem pfacts {p : Int32} (hI : Inv f l q) (h0 : 0 ≤ p.toInt) (h : p.toInt < (f 2 3).toInt) : (p.toNatClampNeg < 6 ∧ p.toInt < 6 ∧ pv (f (9 + p.toNatClampNeg))) ∧ ((l 45).getD p.toNatClampNeg 0 = f (9 + p.toNatClampNeg) 0 ∧ (l 46).getD p.toNatClampNeg 0 = f (9 + p.toNatClampNeg) 1 ∧ (l 47).getD p.toNatClampNeg 0 = f (9 + p.toNatClampNeg) 2 ∧ (l 48).getD p.toNatClampNeg 0 = f (9 + p.toNatClampNeg) 3) := by
  obtain ⟨⟨⟨hn1, hn2, hn3⟩, hL, hE, hR⟩, hPp, hD, hM, hS⟩ := id hI
  have hi := ix_i h0
  have hp : p.toNatClampNeg < 6 := by omega
  refine ⟨⟨hp, by omega, hPp.at hp⟩, ?_, ?_, ?_, ?_⟩
  · rw [hE.2.1.1, col_at hp]
  · rw [hE.2.1.2.1, col_at hp]
  · rw [hE.2.1.2.2.1, col_at hp]
  · rw [hE.2.1.2.2.2, col_at hp]
theorem plens (hI : Inv f l q) : ((l 43).length = 2 ∧ (l 44).length = 12) ∧ ((l 45).length = 6 ∧ (l 46).length = 6 ∧ (l 47).length = 6 ∧ (l 48).length = 6) := by
  obtain ⟨⟨⟨hn1, hn2, hn3⟩, hL, hE, hR⟩, hPp, hD, hM, hS⟩ := id hI
  refine ⟨⟨by rw [hE.1.1]; exact hL.1.1, by rw [hE.1.2]; exact hL.1.2.1⟩, ?_, ?_, ?_, ?_⟩
  · rw [hE.2.1.1]; rfl
  · rw [hE.2.1.2.1]; rfl
  · rw [hE.2.1.2.2.1]; rfl
  · rw [hE.2.1.2.2.2]; rfl
/-- one person's mark, neck -/
theorem inv_mark {p : Nat} {v : Int32} (hp : p < 6) (h0 : 0 ≤ v.toInt) (h3 : v.toInt ≤ 3) (hI : Inv f l q) : Inv (u2 f (9 + p) 2 v) (u1 l 47 ((l 47).set p v)) q := by
  obtain ⟨⟨⟨hn1, hn2, hn3⟩, hL, hE, hR⟩, hPp, hD, hM, hS⟩ := id hI
  obtain ⟨p0, p1, p2, p3, p4, p5⟩ := hPp
  match p, hp with
  | 0, _ => exact ⟨⟨⟨hn1, hn2, hn3⟩, hL, ⟨hE.1, ⟨hE.2.1.1, hE.2.1.2.1, by show (l 47).set 0 v = _; rw [hE.2.1.2.2.1, col_set (by decide)], hE.2.1.2.2.2⟩, hE.2.2⟩, hR⟩, ⟨⟨p0.1, p0.2.1, ⟨h0, h3⟩, p0.2.2.2⟩, p1, p2, p3, p4, p5⟩, hD, hM, hS⟩
  | 1, _ => exact ⟨⟨⟨hn1, hn2, hn3⟩, hL, ⟨hE.1, ⟨hE.2.1.1, hE.2.1.2.1, by show (l 47).set 1 v = _; rw [hE.2.1.2.2.1, col_set (by decide)], hE.2.1.2.2.2⟩, hE.2.2⟩, hR⟩, ⟨p0, ⟨p1.1, p1.2.1, ⟨h0, h3⟩, p1.2.2.2⟩, p2, p3, p4, p5⟩, hD, hM, hS⟩
  | 2, _ => exact ⟨⟨⟨hn1, hn2, hn3⟩, hL, ⟨hE.1, ⟨hE.2.1.1, hE.2.1.2.1, by show (l 47).set 2 v = _; rw [hE.2.1.2.2.1, col_set (by decide)], hE.2.1.2.2.2⟩, hE.2.2⟩, hR⟩, ⟨p0, p1, ⟨p2.1, p2.2.1, ⟨h0, h3⟩, p2.2.2.2⟩, p3, p4, p5⟩, hD, hM, hS⟩
  | 3, _ => exact ⟨⟨⟨hn1, hn2, hn3⟩, hL, ⟨hE.1, ⟨hE.2.1.1, hE.2.1.2.1, by show (l 47).set 3 v = _; rw [hE.2.1.2.2.1, col_set (by decide)], hE.2.1.2.2.2⟩, hE.2.2⟩, hR⟩, ⟨p0, p1, p2, ⟨p3.1, p3.2.1, ⟨h0, h3⟩, p3.2.2.2⟩, p4, p5⟩, hD, hM, hS⟩
  | 4, _ => exact ⟨⟨⟨hn1, hn2, hn3⟩, hL, ⟨hE.1, ⟨hE.2.1.1, hE.2.1.2.1, by show (l 47).set 4 v = _; rw [hE.2.1.2.2.1, col_set (by decide)], hE.2.1.2.2.2⟩, hE.2.2⟩, hR⟩, ⟨p0, p1, p2, p3, ⟨p4.1, p4.2.1, ⟨h0, h3⟩, p4.2.2.2⟩, p5⟩, hD, hM, hS⟩
  | 5, _ => exact ⟨⟨⟨hn1, hn2, hn3⟩, hL, ⟨hE.1, ⟨hE.2.1.1, hE.2.1.2.1, by show (l 47).set 5 v = _; rw [hE.2.1.2.2.1, col_set (by decide)], hE.2.1.2.2.2⟩, hE.2.2⟩, hR⟩, ⟨p0, p1, p2, p3, p4, ⟨p5.1, p5.2.1, ⟨h0, h3⟩, p5.2.2.2⟩⟩, hD, hM, hS⟩
theorem inv_neck {p : Nat} {v : Int32} (hp : p < 6) (h0 : 0 ≤ v.toInt) (h3 : v.toInt ≤ 9) (hI : Inv f l q) : Inv (u2 f (9 + p) 3 v) (u1 l 48 ((l 48).set p v)) q := by
  obtain ⟨⟨⟨hn1, hn2, hn3⟩, hL, hE, hR⟩, hPp, hD, hM, hS⟩ := id hI
  obtain ⟨p0, p1, p2, p3, p4, p5⟩ := hPp
  match p, hp with
  | 0, _ => exact ⟨⟨⟨hn1, hn2, hn3⟩, hL, ⟨hE.1, ⟨hE.2.1.1, hE.2.1.2.1, hE.2.1.2.2.1, by show (l 48).set 0 v = _; rw [hE.2.1.2.2.2, col_set (by decide)]⟩, hE.2.2⟩, hR⟩, ⟨⟨p0.1, p0.2.1, p0.2.2.1, h0, h3⟩, p1, p2, p3, p4, p5⟩, hD, hM, hS⟩
  | 1, _ => exact ⟨⟨⟨hn1, hn2, hn3⟩, hL, ⟨hE.1, ⟨hE.2.1.1, hE.2.1.2.1, hE.2.1.2.2.1, by show (l 48).set 1 v = _; rw [hE.2.1.2.2.2, col_set (by decide)]⟩, hE.2.2⟩, hR⟩, ⟨p0, ⟨p1.1, p1.2.1, p1.2.2.1, h0, h3⟩, p2, p3, p4, p5⟩, hD, hM, hS⟩
  | 2, _ => exact ⟨⟨⟨hn1, hn2, hn3⟩, hL, ⟨hE.1, ⟨hE.2.1.1, hE.2.1.2.1, hE.2.1.2.2.1, by show (l 48).set 2 v = _; rw [hE.2.1.2.2.2, col_set (by decide)]⟩, hE.2.2⟩, hR⟩, ⟨p0, p1, ⟨p2.1, p2.2.1, p2.2.2.1, h0, h3⟩, p3, p4, p5⟩, hD, hM, hS⟩
  | 3, _ => exact ⟨⟨⟨hn1, hn2, hn3⟩, hL, ⟨hE.1, ⟨hE.2.1.1, hE.2.1.2.1, hE.2.1.2.2.1, by show (l 48).set 3 v = _; rw [hE.2.1.2.2.2, col_set (by decide)]⟩, hE.2.2⟩, hR⟩, ⟨p0, p1, p2, ⟨p3.1, p3.2.1, p3.2.2.1, h0, h3⟩, p4, p5⟩, hD, hM, hS⟩
  | 4, _ => exact ⟨⟨⟨hn1, hn2, hn3⟩, hL, ⟨hE.1, ⟨hE.2.1.1, hE.2.1.2.1, hE.2.1.2.2.1, by show (l 48).set 4 v = _; rw [hE.2.1.2.2.2, col_set (by decide)]⟩, hE.2.2⟩, hR⟩, ⟨p0, p1, p2, p3, ⟨p4.1, p4.2.1, p4.2.2.1, h0, h3⟩, p5⟩, hD, hM, hS⟩
  | 5, _ => exact ⟨⟨⟨hn1, hn2, hn3⟩, hL, ⟨hE.1, ⟨hE.2.1.1, hE.2.1.2.1, hE.2.1.2.2.1, by show (l 48).set 5 v = _; rw [hE.2.1.2.2.2, col_set (by decide)]⟩, hE.2.2⟩, hR⟩, ⟨p0, p1, p2, p3, p4, ⟨p5.1, p5.2.1, p5.2.2.1, h0, h3⟩⟩, hD, hM, hS⟩
theorem nv_set {L : List Int32} {i : Nat} {v : Int32} (h0 : 0 ≤ v.toInt) (h9 : v.toInt ≤ 99) (h : nv L) : nv (L.set i v) := by
  intro j hj
  rw [getD_set]
  split
  · exact ⟨h0, h9⟩
  · exact h j hj
theorem rv_set {L : List Int32} {i : Nat} {v : Int32} (h0 : 0 ≤ v.toInt) (h9 : v.toInt ≤ 3) (h : rv L) : rv (L.set i v) := by
  intro j hj
  rw [getD_set]
  split
  · exact ⟨h0, h9⟩
  · exact h j hj
theorem inv_ink {i : Nat} {v : Int32} (h0 : 0 ≤ v.toInt) (h9 : v.toInt ≤ 99) (hI : Inv f l q) : Inv f (u1 (u1 l 3 ((l 3).set i v)) 43 ((l 43).set i v)) q := by
  obtain ⟨⟨⟨hn1, hn2, hn3⟩, hL, hE, hR⟩, hPp, hD, hM, hS⟩ := id hI
  refine ⟨⟨⟨hn1, hn2, hn3⟩, ⟨⟨?_, hL.1.2⟩, hL.2⟩, ⟨⟨?_, hE.1.2⟩, hE.2⟩, hR.1, ?_⟩, hPp, hD, hM, hS⟩
  · show ((l 3).set i v).length = 2
    rw [List.length_set]; exact hL.1.1
  · show (l 43).set i v = (l 3).set i v
    rw [hE.1.1]
  · exact nv_set h0 h9 hR.2
theorem inv_rule {i : Nat} {v : Int32} (h0 : 0 ≤ v.toInt) (h9 : v.toInt ≤ 3) (hI : Inv f l q) : Inv f (u1 (u1 l 5 ((l 5).set i v)) 44 ((l 44).set i v)) q := by
  obtain ⟨⟨⟨hn1, hn2, hn3⟩, hL, hE, hR⟩, hPp, hD, hM, hS⟩ := id hI
  refine ⟨⟨⟨hn1, hn2, hn3⟩, ⟨⟨hL.1.1, ?_, hL.1.2.2⟩, hL.2⟩, ⟨⟨hE.1.1, ?_⟩, hE.2⟩, ?_, hR.2⟩, hPp, hD, hM, hS⟩
  · show ((l 5).set i v).length = 12
    rw [List.length_set]; exact hL.1.2.1
  · show (l 44).set i v = (l 5).set i v
    rw [hE.1.2]
  · exact rv_set h0 h9 hR.1
theorem inv_strikes {v : Int32} (hI : Inv f l q) : Inv (u2 (u2 f 0 5 v) 42 2 v) l q := by
  obtain ⟨⟨⟨hn1, hn2, hn3⟩, hL, hE, hR⟩, hPp, hD, hM, hS⟩ := id hI
  exact ⟨⟨⟨hn1, hn2, hn3⟩, hL, hE, hR⟩, hPp, hD, ⟨rfl, hM.2⟩, hS⟩
theorem inv_fault {v : Int32} (hI : Inv f l q) : Inv (u2 (u2 f 0 6 v) 42 0 v) l q := by
  obtain ⟨⟨⟨hn1, hn2, hn3⟩, hL, hE, hR⟩, hPp, hD, hM, hS⟩ := id hI
  exact ⟨⟨⟨hn1, hn2, hn3⟩, hL, hE, hR⟩, hPp, hD, ⟨hM.1, rfl, hM.2.2⟩, hS⟩
theorem inv_trace {v : Int32} (hI : Inv f l q) : Inv (u2 (u2 f 33 0 v) 42 29 v) l q := by
  obtain ⟨⟨⟨hn1, hn2, hn3⟩, hL, hE, hR⟩, hPp, hD, hM, hS⟩ := id hI
  exact ⟨⟨⟨hn1, hn2, hn3⟩, hL, hE, hR⟩, hPp, hD, ⟨hM.1, hM.2.1, rfl⟩, hS⟩
/-- the reference, up to a person -/
theorem both_starch {p v : Int32} (hI : Inv f l q) : both scr ix_X8_starch ix_X9_starch [some (.ref 1), some (.int p), some (.int v), none, none] [some (.ref 43), some (.int p), some (.int v), none] f l q := by
  intro P hP
  obtain ⟨⟨⟨hn1, hn2, hn3⟩, hL, hE, hR⟩, hPp, hD, hM, hS⟩ := id hI
  refine run_X8_starch 60 ?_
  repeat (first | refine And.intro (fun e => absurd e (by decide)) (fun e => ?_) | refine And.intro (fun e => ?_) (fun e => absurd e (by decide)) | refine Exists.intro _ (And.intro rfl ?_) | refine And.intro rfl ?_)
  refine s_personOf (b := 2) (Or.inl rfl) hn2 (fun c d => ?_) (fun c => ?_)
  · obtain ⟨⟨k1, k2, k3⟩, k4, k5, k6, k7⟩ := pfacts hI c d
    obtain ⟨-, -, -, -, m8⟩ := plens hI
    repeat (first | refine And.intro (fun e => absurd e (by decide)) (fun e => ?_) | refine And.intro (fun e => ?_) (fun e => absurd e (by decide)) | refine Exists.intro _ (And.intro rfl ?_) | refine And.intro rfl ?_)
    refine s_within (a := 0) (b := 9) rfl rfl (fun c1 c2 => ?_) (fun c1 => ?_)
    · repeat (first | refine And.intro (fun e => absurd e (by decide)) (fun e => ?_) | refine And.intro (fun e => ?_) (fun e => absurd e (by decide)) | refine Exists.intro _ (And.intro rfl ?_) | refine And.intro rfl ?_)
      refine Exists.intro _ (And.intro (fld_of (people_at k1) rfl) ?_)
      refine Exists.intro _ (And.intro (people_set k1 (by decide)) ?_)
      refine hP _ _ _ _ (fun P2 h2 => ?_)
      have e1 : (u2 f (9 + p.toNatClampNeg) 3 v) 42 1 = f 42 1 := u2_ne (by omega)
      refine run_X9_starch 60 ?_
      repeat (first | refine And.intro (fun e => absurd e (by decide)) (fun e => ?_) | refine And.intro (fun e => ?_) (fun e => absurd e (by decide)) | refine Exists.intro _ (And.intro rfl ?_) | refine And.intro rfl ?_)
      refine r_noPerson (by rw [e1, hn3]; exact hn1) (fun g1 g2 => ?_) (fun g1 => absurd ⟨c, by rw [e1, hn3]; exact d⟩ g1)
      repeat (first | refine And.intro (fun e => absurd e (by decide)) (fun e => ?_) | refine And.intro (fun e => ?_) (fun e => absurd e (by decide)) | refine Exists.intro _ (And.intro rfl ?_) | refine And.intro rfl ?_)
      refine s_in (x := v.toInt) (a := 0) (b := 9) l64 rfl rfl (fun g1 g2 => ?_) (fun g1 => absurd ⟨c1, c2⟩ g1)
      repeat (first | refine And.intro (fun e => absurd e (by decide)) (fun e => ?_) | refine And.intro (fun e => ?_) (fun e => absurd e (by decide)) | refine Exists.intro _ (And.intro rfl ?_) | refine And.intro rfl ?_)
      refine Exists.intro _ (And.intro (ldI_of rfl c (by rw [m8]; exact k2)) ?_)
      repeat (first | refine And.intro (fun e => absurd e (by decide)) (fun e => ?_) | refine And.intro (fun e => ?_) (fun e => absurd e (by decide)) | refine Exists.intro _ (And.intro rfl ?_) | refine And.intro rfl ?_)
      refine Exists.intro _ (And.intro ((stI_of rfl c (by rw [m8]; exact k2))) ?_)
      have h3 := h2 _ _ _ (inv_neck k1 c1 c2 hI)
      rw [← k7] at h3
      exact h3
    · repeat (first | refine And.intro (fun e => absurd e (by decide)) (fun e => ?_) | refine And.intro (fun e => ?_) (fun e => absurd e (by decide)) | refine Exists.intro _ (And.intro rfl ?_) | refine And.intro rfl ?_)
      refine hP _ f l q (fun P2 h2 => ?_)
      refine run_X9_starch 60 ?_
      repeat (first | refine And.intro (fun e => absurd e (by decide)) (fun e => ?_) | refine And.intro (fun e => ?_) (fun e => absurd e (by decide)) | refine Exists.intro _ (And.intro rfl ?_) | refine And.intro rfl ?_)
      refine r_noPerson (by rw [hn3]; exact hn1) (fun g1 g2 => ?_) (fun g1 => absurd ⟨c, by rw [hn3]; exact d⟩ g1)
      repeat (first | refine And.intro (fun e => absurd e (by decide)) (fun e => ?_) | refine And.intro (fun e => ?_) (fun e => absurd e (by decide)) | refine Exists.intro _ (And.intro rfl ?_) | refine And.intro rfl ?_)
      refine s_in (x := v.toInt) (a := 0) (b := 9) l64 rfl rfl (fun g1 g2 => absurd ⟨g1, g2⟩ c1) (fun g1 => ?_)
      repeat (first | refine And.intro (fun e => absurd e (by decide)) (fun e => ?_) | refine And.intro (fun e => ?_) (fun e => absurd e (by decide)) | refine Exists.intro _ (And.intro rfl ?_) | refine And.intro rfl ?_)
      exact h2 f l q hI
  · repeat (first | refine And.intro (fun e => absurd e (by decide)) (fun e => ?_) | refine And.intro (fun e => ?_) (fun e => absurd e (by decide)) | refine Exists.intro _ (And.intro rfl ?_) | refine And.intro rfl ?_)
    refine hP _ f l q (fun P2 h2 => ?_)
    refine run_X9_starch 60 ?_
    repeat (first | refine And.intro (fun e => absurd e (by decide)) (fun e => ?_) | refine And.intro (fun e => ?_) (fun e => absurd e (by decide)) | refine Exists.intro _ (And.intro rfl ?_) | refine And.intro rfl ?_)
    refine r_noPerson (by rw [hn3]; exact hn1) (fun g1 g2 => absurd ⟨g1, by rw [← hn3]; exact g2⟩ c) (fun g1 => ?_)
    repeat (first | refine And.intro (fun e => absurd e (by decide)) (fun e => ?_) | refine And.intro (fun e => ?_) (fun e => absurd e (by decide)) | refine Exists.intro _ (And.intro rfl ?_) | refine And.intro rfl ?_)
    exact h2 f l q hI
end B2
