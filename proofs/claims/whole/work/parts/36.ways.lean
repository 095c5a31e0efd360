/-! ways -/
section WY
variable {scr : Option (List Int32)} {P : ba_P} {w : ba_W} {f : Nat → Nat → Int32} {l : Nat → List Int32} {q : Nat → List Int64}
theorem inv_rows {A B : List Int32} {A' B' : List Int64} (hI : Inv f l q) (hA : A.length = 4) (hB : B.length = 4) (hA' : A'.length = 4) (hB' : B'.length = 4) : Inv f (wq l A B) (wz q A' B') := by
  obtain ⟨⟨⟨hn1, hn2, hn3⟩, hL, hE, hR⟩, hPp, hD, hM, hS⟩ := id hI
  exact ⟨⟨⟨hn1, hn2, hn3⟩, ⟨⟨hL.1.1, hL.1.2.1, hA, hB⟩, hL.2.1, hL.2.2.1, hL.2.2.2.1, hL.2.2.2.2.1, ⟨hL.2.2.2.2.2.1.1, hL.2.2.2.2.2.1.2.1, hL.2.2.2.2.2.1.2.2.1, hA', hB'⟩, hL.2.2.2.2.2.2⟩, hE, hR⟩, hPp, hD, hM, hS⟩
theorem nI_ex {x : Int32} (h : 0 ≤ x.toInt) : ∃ a : Nat, x = nI a ∧ (a : Int) = x.toInt := by
  have := ix_i h
  have := fb_rng x
  exact ⟨x.toNatClampNeg, by rw [eq_i, nI_toInt (by omega)]; omega, by omega⟩
theorem ss_one {g : Nat → Nat} {b : Nat} (hb : b < 4) : ss (fun i => if i = b then 1 else 0) g 4 = g b := by
  match b, hb with
  | 0, _ => simp [ss]
  | 1, _ => simp [ss]
  | 2, _ => simp [ss]
  | 3, _ => simp [ss]
theorem both_ways {a b c : Int32} (hI : Inv f l q) : both scr ix_X8_ways ix_X9_ways [some (.ref 1), some (.int a), some (.int b), some (.int c)] [some (.ref 43), some (.int a), some (.int b), some (.int c)] f l q := by
  intro P hP
  obtain ⟨⟨⟨hn1, hn2, hn3⟩, hL, hE, hR⟩, hPp, hD, hM, hS⟩ := id hI
  have e44 : l 44 = l 5 := hE.1.2
  have bad : ¬ (f 42 1).toInt = 0 → ¬ ((0 ≤ a.toInt ∧ a.toInt ≤ 3) ∧ (0 ≤ b.toInt ∧ b.toInt ≤ 3) ∧ 0 ≤ c.toInt ∧ c.toInt ≤ 9) → P (some (.int (-2))) (wW f l q) := by
    intro c0 h
    refine hP _ f l q (fun P2 h2 => ?_)
    refine run_X9_ways 60 ?_
    repeat (first | refine And.intro (fun e => absurd e (by decide)) (fun e => ?_) | refine And.intro (fun e => ?_) (fun e => absurd e (by decide)) | refine Exists.intro _ (And.intro rfl ?_) | refine And.intro rfl ?_)
    refine And.intro (fun d => ?_) (fun d => absurd (Classical.not_not.mp d) (fun e => c0 (by rw [e]; rfl)))
    repeat (first | refine And.intro (fun e => absurd e (by decide)) (fun e => ?_) | refine And.intro (fun e => ?_) (fun e => absurd e (by decide)) | refine Exists.intro _ (And.intro rfl ?_) | refine And.intro rfl ?_)
    refine s_isMark (fun d1 d2 => ?_) (fun d1 => ?_)
    · repeat (first | refine And.intro (fun e => absurd e (by decide)) (fun e => ?_) | refine And.intro (fun e => ?_) (fun e => absurd e (by decide)) | refine Exists.intro _ (And.intro rfl ?_) | refine And.intro rfl ?_)
      refine s_isMark (fun d3 d4 => ?_) (fun d3 => ?_)
      · repeat (first | refine And.intro (fun e => absurd e (by decide)) (fun e => ?_) | refine And.intro (fun e => ?_) (fun e => absurd e (by decide)) | refine Exists.intro _ (And.intro rfl ?_) | refine And.intro rfl ?_)
        refine s_in (x := c.toInt) (a := 0) (b := 9) l64 rfl rfl (fun e1 e2 => absurd ⟨⟨d1, d2⟩, ⟨d3, d4⟩, e1, e2⟩ h) (fun e1 => ?_)
        repeat (first | refine And.intro (fun e => absurd e (by decide)) (fun e => ?_) | refine And.intro (fun e => ?_) (fun e => absurd e (by decide)) | refine Exists.intro _ (And.intro rfl ?_) | refine And.intro rfl ?_)
        exact h2 f l q hI
      · repeat (first | refine And.intro (fun e => absurd e (by decide)) (fun e => ?_) | refine And.intro (fun e => ?_) (fun e => absurd e (by decide)) | refine Exists.intro _ (And.intro rfl ?_) | refine And.intro rfl ?_)
        exact h2 f l q hI
    · repeat (first | refine And.intro (fun e => absurd e (by decide)) (fun e => ?_) | refine And.intro (fun e => ?_) (fun e => absurd e (by decide)) | refine Exists.intro _ (And.intro rfl ?_) | refine And.intro rfl ?_)
      exact h2 f l q hI
  refine run_X8_ways 60 ?_
  repeat (first | refine And.intro (fun e => absurd e (by decide)) (fun e => ?_) | refine And.intro (fun e => ?_) (fun e => absurd e (by decide)) | refine Exists.intro _ (And.intro rfl ?_) | refine And.intro rfl ?_)
  refine s_isOn (b := 2) (Or.inl rfl) (fun c0 => ?_) (fun c0 => ?_)
  · have c0 : ¬ (f 42 1).toInt = 0 := by rw [hn3]; omega
    repeat (first | refine And.intro (fun e => absurd e (by decide)) (fun e => ?_) | refine And.intro (fun e => ?_) (fun e => absurd e (by decide)) | refine Exists.intro _ (And.intro rfl ?_) | refine And.intro rfl ?_)
    refine s_below (bi := 4) rfl (fun c1 c2 => ?_) (fun c1 => ?_)
    · repeat (first | refine And.intro (fun e => absurd e (by decide)) (fun e => ?_) | refine And.intro (fun e => ?_) (fun e => absurd e (by decide)) | refine Exists.intro _ (And.intro rfl ?_) | refine And.intro rfl ?_)
      refine s_below (bi := 4) rfl (fun c3 c4 => ?_) (fun c3 => ?_)
      · repeat (first | refine And.intro (fun e => absurd e (by decide)) (fun e => ?_) | refine And.intro (fun e => ?_) (fun e => absurd e (by decide)) | refine Exists.intro _ (And.intro rfl ?_) | refine And.intro rfl ?_)
        refine s_within (a := 0) (b := 9) rfl rfl (fun c5 c6 => ?_) (fun c5 => ?_)
        · obtain ⟨a, rfl, ha⟩ := nI_ex c1
          obtain ⟨b, rfl, hb⟩ := nI_ex c3
          obtain ⟨c, rfl, hc⟩ := nI_ex c5
          repeat (first | refine And.intro (fun e => absurd e (by decide)) (fun e => ?_) | refine And.intro (fun e => ?_) (fun e => absurd e (by decide)) | refine Exists.intro _ (And.intro rfl ?_) | refine And.intro rfl ?_)
          refine s_rowsTo (c := fun i => if i = b then 1 else 0) (by omega) (by omega) (fun i hi => ?_) hL.1.2.2.1 hL.1.2.2.2 hL.1.2.1 hR.1 (fun B hB => ?_)
          · exact (by decide +kernel : ∀ i b : Fin 4, (((1 : Int32) <<< (nI b.1 &&& 31)) >>> (nI i.1 &&& 31)) &&& 1 = nI (if i.1 = b.1 then 1 else 0)) ⟨i, hi⟩ ⟨b, by omega⟩
          · rw [ss_one (by omega)]
            refine hP _ _ _ _ (fun P2 h2 => ?_)
            refine run_X9_ways 60 ?_
            repeat (first | refine And.intro (fun e => absurd e (by decide)) (fun e => ?_) | refine And.intro (fun e => ?_) (fun e => absurd e (by decide)) | refine Exists.intro _ (And.intro rfl ?_) | refine And.intro rfl ?_)
            refine And.intro (fun d => ?_) (fun d => absurd (Classical.not_not.mp d) (fun e => c0 (by rw [e]; rfl)))
            repeat (first | refine And.intro (fun e => absurd e (by decide)) (fun e => ?_) | refine And.intro (fun e => ?_) (fun e => absurd e (by decide)) | refine Exists.intro _ (And.intro rfl ?_) | refine And.intro rfl ?_)
            refine s_isMark (fun d1 d2 => ?_) (fun d1 => absurd ⟨c1, by omega⟩ d1)
            repeat (first | refine And.intro (fun e => absurd e (by decide)) (fun e => ?_) | refine And.intro (fun e => ?_) (fun e => absurd e (by decide)) | refine Exists.intro _ (And.intro rfl ?_) | refine And.intro rfl ?_)
            refine s_isMark (fun d3 d4 => ?_) (fun d3 => absurd ⟨c3, by omega⟩ d3)
            repeat (first | refine And.intro (fun e => absurd e (by decide)) (fun e => ?_) | refine And.intro (fun e => ?_) (fun e => absurd e (by decide)) | refine Exists.intro _ (And.intro rfl ?_) | refine And.intro rfl ?_)
            refine s_in (x := (nI c).toInt) (a := 0) (b := 9) l64 rfl rfl (fun e1 e2 => ?_) (fun e1 => absurd ⟨c5, c6⟩ e1)
            repeat (first | refine And.intro (fun e => absurd e (by decide)) (fun e => ?_) | refine And.intro (fun e => ?_) (fun e => absurd e (by decide)) | refine Exists.intro _ (And.intro rfl ?_) | refine And.intro rfl ?_)
            refine r_countWays (l := wq l (r4 (Wn (rn (l 5)) a c)) B) (by omega) (by omega) hL.2.2.2.2.2.1.2.2.2.1 hL.2.2.2.2.2.1.2.2.2.2 (by show (l 44).length = 12; rw [e44]; exact hL.1.2.1) (by show rv (l 44); rw [e44]; exact hR.1) (fun B' hB' => ?_)
            have eW : (wq l (r4 (Wn (rn (l 5)) a c)) B) 44 = l 5 := e44
            rw [eW]
            repeat (first | refine And.intro (fun e => absurd e (by decide)) (fun e => ?_) | refine And.intro (fun e => ?_) (fun e => absurd e (by decide)) | refine Exists.intro _ (And.intro rfl ?_) | refine And.intro rfl ?_)
            have e1 : ba_ldJ (wW f (wq l (r4 (Wn (rn (l 5)) a c)) B) (wz q (j4 (Wn (rn (l 5)) a c)) B')) 59 (nI b) = some (lN (Wn (rn (l 5)) a c b)) := by
              rw [ldJ_of (l := j4 (Wn (rn (l 5)) a c)) rfl (by rw [nI_toInt (by omega)]; omega) (by rw [nI_toInt (by omega)]; show (b : Int) < 4; omega), nI_clamp (by omega), j4_get (by omega)]
            refine Exists.intro _ (And.intro (e1) ?_)
            have h3 := h2 _ _ _ (inv_rows (A := r4 (Wn (rn (l 5)) a c)) (A' := j4 (Wn (rn (l 5)) a c)) hI rfl hB rfl hB')
            rw [← lN_i] at h3
            exact h3
        · repeat (first | refine And.intro (fun e => absurd e (by decide)) (fun e => ?_) | refine And.intro (fun e => ?_) (fun e => absurd e (by decide)) | refine Exists.intro _ (And.intro rfl ?_) | refine And.intro rfl ?_)
          exact bad c0 (fun e => c5 e.2.2)
      · repeat (first | refine And.intro (fun e => absurd e (by decide)) (fun e => ?_) | refine And.intro (fun e => ?_) (fun e => absurd e (by decide)) | refine Exists.intro _ (And.intro rfl ?_) | refine And.intro rfl ?_)
        exact bad c0 (fun e => c3 ⟨e.2.1.1, by omega⟩)
    · repeat (first | refine And.intro (fun e => absurd e (by decide)) (fun e => ?_) | refine And.intro (fun e => ?_) (fun e => absurd e (by decide)) | refine Exists.intro _ (And.intro rfl ?_) | refine And.intro rfl ?_)
      exact bad c0 (fun e => c1 ⟨e.1.1, by omega⟩)
  · repeat (first | refine And.intro (fun e => absurd e (by decide)) (fun e => ?_) | refine And.intro (fun e => ?_) (fun e => absurd e (by decide)) | refine Exists.intro _ (And.intro rfl ?_) | refine And.intro rfl ?_)
    refine hP _ f l q (fun P2 h2 => ?_)
    refine run_X9_ways 60 ?_
    repeat (first | refine And.intro (fun e => absurd e (by decide)) (fun e => ?_) | refine And.intro (fun e => ?_) (fun e => absurd e (by decide)) | refine Exists.intro _ (And.intro rfl ?_) | refine And.intro rfl ?_)
    refine And.intro (fun d => absurd (show f 42 1 = 0 by rw [eq_i, zi, hn3]; omega) d) (fun d => ?_)
    repeat (first | refine And.intro (fun e => absurd e (by decide)) (fun e => ?_) | refine And.intro (fun e => ?_) (fun e => absurd e (by decide)) | refine Exists.intro _ (And.intro rfl ?_) | refine And.intro rfl ?_)
    exact h2 f l q hI
end WY
