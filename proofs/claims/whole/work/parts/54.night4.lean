/-! night: pairs that are no acts, what is asked -/
def pbs (A Q : Nat → Bool) : Nat → Nat → Int32
  | 0, _ => 0
  | m + 1, j => if A j then (if Q j then pbs A Q m (j + 1) else -1) else -2
theorem pbs_3 {A Q : Nat → Bool} : ∀ (m j : Nat), pbs A Q m j = 0 ∨ pbs A Q m j = -1 ∨ pbs A Q m j = -2
  | 0, _ => Or.inl rfl
  | m + 1, j => by
    show (if A j then (if Q j then pbs A Q m (j + 1) else -1) else -2) = 0 ∨ (if A j then (if Q j then pbs A Q m (j + 1) else -1) else -2) = -1 ∨ (if A j then (if Q j then pbs A Q m (j + 1) else -1) else -2) = -2
    cases A j
    · exact Or.inr (Or.inr rfl)
    · cases Q j
      · exact Or.inr (Or.inl rfl)
      · exact pbs_3 m (j + 1)
theorem pbs_0 {A Q : Nat → Bool} : ∀ (m j : Nat), pbs A Q m j = 0 → ∀ t, j ≤ t → t < j + m → A t = true ∧ Q t = true
  | 0, _, _, t, h1, h2 => by omega
  | m + 1, j, h, t, h1, h2 => by
    have h : (if A j then (if Q j then pbs A Q m (j + 1) else -1) else -2) = 0 := h
    cases hA : A j with
    | false => rw [hA] at h; exact absurd (show (-2 : Int32) = 0 from h) (by decide)
    | true =>
      cases hQ : Q j with
      | false => rw [hA, hQ] at h; exact absurd (show (-1 : Int32) = 0 from h) (by decide)
      | true =>
        rw [hA, hQ] at h
        by_cases e : t = j
        · subst e; exact ⟨hA, hQ⟩
        · exact pbs_0 m (j + 1) h t (by omega) (by omega)
def pA (C : Nat → Int32) : Nat → Bool := fun t => decide (0 ≤ (C (2 * t + 1)).toInt ∧ (C (2 * t + 1)).toInt ≤ 3)
def pQ (C : Nat → Int32) (n : Nat) : Nat → Bool := fun t => decide (0 ≤ (C (2 * t)).toInt ∧ (C (2 * t)).toInt < n)
section N4
variable {scr : Option (List Int32)} {P : ba_P} {w : ba_W} {f : Nat → Nat → Int32} {l : Nat → List Int32} {q : Nat → List Int64}
variable {F : Nat → Nat → Int32} {L : Nat → List Int32}
theorem s_isAsked {a : Int32} (h1 : (0 ≤ a.toInt ∧ a.toInt ≤ 4) ∨ (10 ≤ a.toInt ∧ a.toInt ≤ 15) → P (some (.int 1)) w) (h0 : ¬ ((0 ≤ a.toInt ∧ a.toInt ≤ 4) ∨ (10 ≤ a.toInt ∧ a.toInt ≤ 15)) → P (some (.int 0)) w) : ba_go scr ix_X8_isAskedOfNights 0 [some (.int a)] [] w 0 0 P := by
  refine run_X8_isAskedOfNights 30 ?_
  refine And.intro rfl (s_within (a := 0) (b := 4) rfl rfl (fun c d => ?_) (fun c => ?_))
  · refine And.intro (fun _ => ?_) (fun e => absurd (by decide) e)
    exact And.intro rfl (h1 (Or.inl ⟨c, d⟩))
  · refine And.intro (fun e => absurd rfl e) (fun _ => ?_)
    refine And.intro rfl (s_within (a := 10) (b := 15) rfl rfl (fun g d => ?_) (fun g => ?_))
    · refine And.intro (fun e => absurd e (by decide)) (fun _ => ?_)
      exact And.intro rfl (h1 (Or.inr ⟨g, d⟩))
    · refine And.intro (fun _ => ?_) (fun e => absurd rfl e)
      exact And.intro rfl (h0 (fun e => e.elim c g))
theorem s_refusal {k i0 N n : Nat} (hk4 : k < 4) (hC : (l (34 + 2 * k + 1)).length = 60) (hIN : i0 + 2 * N ≤ 60) (hn : n ≤ 6) (hn2 : f 2 3 = nI n)
    (hP : P (some (.int (pbs (pA (fun t => (l (34 + 2 * k + 1)).getD (i0 + t) 0)) (pQ (fun t => (l (34 + 2 * k + 1)).getD (i0 + t) 0) n) N 0))) (wW f l q)) : ba_go scr ix_X8_refusalOfPairs 0 [some (.ref 1), some (.ref (34 + 2 * k + 1)), some (.int (nI i0)), some (.int (nI N)), none] [] (wW f l q) 0 0 P := by
  have isC : ba_isC (wW f l q) (34 + 2 * k + 1) 5 = true := isC_of (sh_fld hk4).2.2.2.2
  have hx0 : ∀ j, nI i0 + Int32.ofInt 2 * nI j = nI (i0 + 2 * j) := fun j => by
    show nI i0 + nI 2 * nI j = _
    rw [nI_mul, nI_add]
  have hx1 : ∀ j, nI i0 + Int32.ofInt 2 * nI j + Int32.ofInt 1 = nI (i0 + 2 * j + 1) := fun j => by rw [hx0]; exact nI_1 _
  have loop : ∀ (m j : Nat) (x : Int32), j + m = N → x = nI j → P (some (.int (pbs (pA (fun t => (l (34 + 2 * k + 1)).getD (i0 + t) 0)) (pQ (fun t => (l (34 + 2 * k + 1)).getD (i0 + t) 0) n) m j))) (wW f l q) → ba_go scr ix_X8_refusalOfPairs 3 [some (.ref 1), some (.ref (34 + 2 * k + 1)), some (.int (nI i0)), some (.int (nI N)), some (.int x)] [] (wW f l q) 0 0 P := by
    intro m
    induction m with
    | zero =>
      intro j x g1 g2 h
      subst g2
      have h4 : j = N := by omega
      subst h4
      refine run_X8_refusalOfPairs 6 ?_
      refine And.intro (fun _ => ?_) (fun e => absurd (by show nI j ≤ nI j; rw [le_i]; omega) e)
      exact h
    | succ m ih =>
      intro j x g1 g2 h
      subst g2
      have h : P (some (.int (if pA (fun t => (l (34 + 2 * k + 1)).getD (i0 + t) 0) j then (if pQ (fun t => (l (34 + 2 * k + 1)).getD (i0 + t) 0) n j then pbs (pA (fun t => (l (34 + 2 * k + 1)).getD (i0 + t) 0)) (pQ (fun t => (l (34 + 2 * k + 1)).getD (i0 + t) 0) n) m (j + 1) else -1) else -2))) (wW f l q) := h
      have eA : pA (fun t => (l (34 + 2 * k + 1)).getD (i0 + t) 0) j = decide (0 ≤ ((l (34 + 2 * k + 1)).getD (i0 + 2 * j + 1) 0).toInt ∧ ((l (34 + 2 * k + 1)).getD (i0 + 2 * j + 1) 0).toInt ≤ 3) := rfl
      have eQ : pQ (fun t => (l (34 + 2 * k + 1)).getD (i0 + t) 0) n j = decide (0 ≤ ((l (34 + 2 * k + 1)).getD (i0 + 2 * j) 0).toInt ∧ ((l (34 + 2 * k + 1)).getD (i0 + 2 * j) 0).toInt < n) := rfl
      rw [eA, eQ] at h
      refine run_X8_refusalOfPairs 15 ?_
      refine And.intro (fun e => absurd e (by show ¬ nI N ≤ nI j; rw [le_i, nI_toInt (by omega), nI_toInt (by omega)]; omega)) (fun _ => ?_)
      refine And.intro (ck rfl rfl rfl rfl isC) (s_atn (t := i0 + 2 * j + 1) hk4 hC (hx1 j) (by omega) ?_)
      refine And.intro rfl (s_within (a := 0) (b := 3) rfl rfl (fun c d => ?_) (fun c => ?_))
      · rw [decide_eq_true (And.intro c d)] at h
        refine run_X8_refusalOfPairs 11 ?_
        refine And.intro (fun _ => ?_) (fun e => absurd (by decide) e)
        refine Exists.intro _ (And.intro (rfl) ?_)
        refine And.intro (ck rfl rfl rfl rfl isC) (s_atn (t := i0 + 2 * j) hk4 hC (hx0 j) (by omega) ?_)
        refine And.intro rfl (s_personOf (b := 2) (Or.inl rfl) (by rw [hn2, nI_toInt (by omega)]; omega) (fun r1 r2 => ?_) (fun r => ?_))
        · rw [hn2, nI_toInt (by omega)] at r2
          rw [decide_eq_true (And.intro r1 r2)] at h
          refine run_X8_refusalOfPairs 3 ?_
          exact ih (j + 1) _ (by omega) (nI_1 j) h
        · rw [hn2, nI_toInt (by omega)] at r
          rw [decide_eq_false r] at h
          refine run_X8_refusalOfPairs 4 ?_
          exact h
      · rw [decide_eq_false c] at h
        refine run_X8_refusalOfPairs 4 ?_
        refine And.intro (fun e => absurd rfl e) (fun _ => ?_)
        exact h
  refine run_X8_refusalOfPairs 2 ?_
  exact loop N 0 0 (by omega) rfl hP
/-- what a night that passed answers -/
def nan (O : Nat → Int32) (n : Nat) (I M : List Int32) (ch ld : Nat) (a : Int32) : Int32 :=
  if a = 0 then I.getD 0 0 + I.getD 1 0 else if a = 2 then B6 (nwo O n M 0) ||| B6 (nwo O n M 1) else if a = 3 then nI ch else if a = 4 then nI ld else if (a - 10).toInt < n then M.getD (a - 10).toNatClampNeg 0 else -9
theorem s_answer {n ch ld : Nat} {I M : List Int32} {a : Int32} (h : CW f F l L n I M) (hn : n ≤ 6) (hM : mv M) (hI : I.length = 2) (ha : (0 ≤ a.toInt ∧ a.toInt ≤ 4) ∨ (10 ≤ a.toInt ∧ a.toInt ≤ 15)) (w1 : F 15 1 = -9) (w2 : F 15 2 = nI ch) (w3 : F 15 3 = nI ld)
    (hP : P (some (.int (if a = 1 then -9 else nan (fun p => f (9 + p) 1) n I M ch ld a))) (wW F L q)) : ba_go scr ix_X1_answer 0 [some (.ref 16), some (.int a)] [] (wW F L q) 0 0 P := by
  have m9 : (-9 : Int32) = (Int8.ofInt (-9)).toInt32 := by decide
  have e17 : L 17 = I := h.2.1.1
  refine run_X1_answer 60 ?_
  refine And.intro (fun c => ?_) (fun c => ?_)
  · have c : ¬ a = 1 := c
    rw [if_neg c] at hP
    refine Exists.intro _ (And.intro (rfl) ?_)
    refine And.intro (fun _ => ?_) (fun e => absurd (w1.trans m9) e)
    refine And.intro (fun g => ?_) (ba_sw_mk _ _ (fun j t hj he => ?_))
    · have g : a.toInt < 0 ∨ 4 < a.toInt := g
      have h10 : (10 : Int32).toInt = 10 := rfl
      have es : (a - 10).toInt = a.toInt - 10 := by rw [fb_subI (by rw [h10]; omega) (by rw [h10]; omega), h10]
      have ec := ix_i (x := a - 10) (by omega)
      have q0 : ¬ a = 0 := fun e => by rw [e, zi] at g ha; omega
      have q2 : ¬ a = 2 := fun e => by rw [e, show (2 : Int32).toInt = 2 from rfl] at g ha; omega
      have q3 : ¬ a = 3 := fun e => by rw [e, show (3 : Int32).toInt = 3 from rfl] at g ha; omega
      have q4 : ¬ a = 4 := fun e => by rw [e, show (4 : Int32).toInt = 4 from rfl] at g ha; omega
      unfold nan at hP
      rw [if_neg q0, if_neg q2, if_neg q3, if_neg q4] at hP
      refine And.intro rfl (run_X1_markOf 30 ?_)
      refine Exists.intro _ (And.intro (rfl) ?_)
      refine And.intro rfl (s_personOf (b := 16) (p := a - 10) (Or.inr rfl) (by rw [h.2.1.2.2, nI_toInt (by omega)]; omega) (fun r1 r2 => ?_) (fun r => ?_))
      · rw [h.2.1.2.2, nI_toInt (by omega)] at r2
        rw [if_pos r2, ← (h.2.2 (a - 10).toNatClampNeg (by omega)).2.2.1] at hP
        refine Exists.intro _ (And.intro (fld_of (after_at (f := F) (show (a - 10).toNatClampNeg < 6 by omega)) rfl) ?_)
        exact hP
      · rw [h.2.1.2.2, nI_toInt (by omega)] at r
        rw [if_neg (by omega)] at hP
        exact hP
    · have he : a.toInt = 0 + (j : Int) := he
      have hj : [64, 112, 84, 102, 107][j]? = some t := hj
      match j, hj with
      | 0, hj =>
        cases hj
        have e : a = 0 := by rw [eq_i, zi]; omega
        subst e
        have hP : P (some (.int (I.getD 0 0 + I.getD 1 0))) (wW F L q) := hP
        rw [← e17] at hP
        have a17 : ∀ (xs : Option (List Int32)) (j : Nat), j < 2 → ba_ldI xs (wW F L q) 18 (nI j) = some ((L 17).getD j 0) := fun xs j hj => by
          rw [ldI_of (l := L 17) rfl (by rw [nI_toInt (by omega)]; omega) (by rw [nI_toInt (by omega), e17, hI]; omega), nI_clamp (by omega)]
        refine Exists.intro _ (And.intro (rfl) ?_)
        refine Exists.intro _ (And.intro (rfl) ?_)
        refine Exists.intro _ (And.intro (a17 _ 0 (by decide)) ?_)
        refine Exists.intro _ (And.intro (rfl) ?_)
        refine Exists.intro _ (And.intro (rfl) ?_)
        refine Exists.intro _ (And.intro (a17 _ 1 (by decide)) ?_)
        exact hP
      | 1, hj => exact absurd (by rw [eq_i, show (1 : Int32).toInt = 1 from rfl]; omega) c
      | 2, hj =>
        cases hj
        have e : a = 2 := by rw [eq_i, show (2 : Int32).toInt = 2 from rfl]; omega
        subst e
        have hP : P (some (.int (B6 (nwo (fun p => f (9 + p) 1) n M 0) ||| B6 (nwo (fun p => f (9 + p) 1) n M 1)))) (wW F L q) := hP
        refine Exists.intro _ (And.intro (rfl) ?_)
        refine And.intro rfl (s_workersN (b := 16) (o := 0) (Or.inr rfl) hn h.2.1.2.2 (h.mk6 hn hM) ?_)
        refine Exists.intro _ (And.intro (rfl) ?_)
        refine And.intro rfl (s_workersN (b := 16) (o := 1) (Or.inr rfl) hn h.2.1.2.2 (h.mk6 hn hM) ?_)
        rw [← h.wos (o := 0), ← h.wos (o := 1)] at hP
        exact hP
      | 3, hj =>
        cases hj
        have e : a = 3 := by rw [eq_i, show (3 : Int32).toInt = 3 from rfl]; omega
        subst e
        have hP : P (some (.int (nI ch))) (wW F L q) := hP
        rw [← w2] at hP
        refine Exists.intro _ (And.intro (rfl) ?_)
        exact hP
      | 4, hj =>
        cases hj
        have e : a = 4 := by rw [eq_i, show (4 : Int32).toInt = 4 from rfl]; omega
        subst e
        have hP : P (some (.int (nI ld))) (wW F L q) := hP
        rw [← w3] at hP
        refine Exists.intro _ (And.intro (rfl) ?_)
        exact hP
      | j + 5, hj => exact absurd (List.getElem?_eq_some_iff.mp hj).1 (by show ¬ j + 5 < 5; omega)
  · have c : a = 1 := Classical.not_not.mp c
    rw [if_pos c, ← w1] at hP
    refine Exists.intro _ (And.intro (rfl) ?_)
    exact hP
theorem s_answer0 {j : Nat} {a : Int32} (hj : j < 30) (w1 : F 15 1 = nI j) (hP : P (some (.int (if a = 1 then nI j else -100 - nI j))) (wW F L q)) : ba_go scr ix_X1_answer 0 [some (.ref 16), some (.int a)] [] (wW F L q) 0 0 P := by
  have m9 : (-9 : Int32) = (Int8.ofInt (-9)).toInt32 := by decide
  have hne : ¬ F 15 1 = (Int8.ofInt (-9)).toInt32 := fun e => by
    rw [w1, ← m9, eq_i, nI_toInt (by omega), show (-9 : Int32).toInt = -9 from rfl] at e
    omega
  refine run_X1_answer 20 ?_
  refine And.intro (fun c => ?_) (fun c => ?_)
  · have c : ¬ a = 1 := c
    rw [if_neg c, ← w1] at hP
    refine Exists.intro _ (And.intro (rfl) ?_)
    refine And.intro (fun e => absurd e hne) (fun _ => ?_)
    refine Exists.intro _ (And.intro (rfl) ?_)
    exact hP
  · have c : a = 1 := Classical.not_not.mp c
    rw [if_pos c, ← w1] at hP
    refine Exists.intro _ (And.intro (rfl) ?_)
    exact hP
end N4
