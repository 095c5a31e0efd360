/-! war: what the class makes of a text -/
def dv (c : Int32) : Int32 := c - 48
def ik (C : Nat → Int32) (o : Nat) : Int32 := 10 * dv (C (1 + 2 * o)) + dv (C (2 + 2 * o))
def CE (C : Nat → Int32) (f F : Nat → Nat → Int32) (l L : Nat → List Int32) (np : Nat) : Prop :=
  ((∀ x y, ¬ x = 2 → ¬ (9 ≤ x ∧ x < 15) → F x y = f x y) ∧ (∀ x, ¬ x = 3 → ¬ x = 5 → L x = l x)) ∧ ((L 3).length = 2 ∧ ∀ o, o < 2 → (L 3).getD o 0 = ik C o) ∧ ((L 5).length = 12 ∧ ∀ j, j < 12 → (L 5).getD j 0 = dv (C (5 + j))) ∧ F 2 3 = nI np ∧
  (∀ p, p < np → F (9 + p) 0 = kd (C (17 + 5 * p + 1)) ∧ F (9 + p) 1 = dv (C (17 + 5 * p + 2)) ∧ F (9 + p) 2 = dv (C (17 + 5 * p + 3)) ∧ F (9 + p) 3 = dv (C (17 + 5 * p + 4))) ∧ ∀ p y, np ≤ p → p < 6 → F (9 + p) y = f (9 + p) y
section WB
variable {scr : Option (List Int32)} {P : ba_P} {w : ba_W} {f : Nat → Nat → Int32} {l : Nat → List Int32} {q : List (List Int32)}
theorem s_digit {k t : Nat} {x : Int32} (hk4 : k < 4) (hC : (l (34 + 2 * k + 1)).length = 60) (hx : x = nI t) (ht : t < 60) (hP : P (some (.int (dv ((l (34 + 2 * k + 1)).getD t 0)))) (wW f l q)) : ba_go scr ix_X6_digit 0 [some (.ref (34 + 2 * k + 1)), some (.int x)] [] (wW f l q) 0 0 P := by
  have isC : ba_isC (wW f l q) (34 + 2 * k + 1) 5 = true := isC_of (sh_fld hk4).2.2.2.2
  have e48 : (48 : Int32) = (Int8.ofInt 48).toInt32 := by decide
  unfold dv at hP
  rw [e48] at hP
  refine run_X6_digit 20 ?_
  refine And.intro (ck rfl rfl rfl rfl isC) (s_atn hk4 hC hx ht ?_)
  exact hP
theorem s_inkOf {k i0 o : Nat} {C : Nat → Int32} {x : Int32} (hk4 : k < 4) (hC : (l (34 + 2 * k + 1)).length = 60) (hCt : ∀ t, C t = (l (34 + 2 * k + 1)).getD (i0 + t) 0) (ho : o < 2) (hi : i0 + 5 ≤ 60) (hx : x = nI o) (hP : P (some (.int (ik C o))) (wW f l q)) : ba_go scr ix_X6_inkOf 0 [some (.ref (34 + 2 * k + 1)), some (.int (nI i0)), some (.int x), none] [] (wW f l q) 0 0 P := by
  subst hx
  have e10 : (10 : Int32) = (Int8.ofInt 10).toInt32 := by decide
  have x1 : nI i0 + Int32.ofInt 1 + Int32.ofInt 2 * nI o = nI (i0 + (1 + 2 * o)) := by
    show nI i0 + nI 1 + nI 2 * nI o = _
    rw [nI_mul, nI_add, nI_add, Nat.add_assoc]
  have x2 : nI i0 + Int32.ofInt 1 + Int32.ofInt 2 * nI o + Int32.ofInt 1 = nI (i0 + (2 + 2 * o)) := by
    rw [x1]
    show nI (i0 + (1 + 2 * o)) + nI 1 = _
    rw [nI_add]
    congr 1
    omega
  unfold ik at hP
  rw [e10, hCt, hCt] at hP
  refine run_X6_inkOf 40 ?_
  refine And.intro rfl (s_digit hk4 hC x1 (by omega) ?_)
  refine And.intro rfl (s_digit hk4 hC x2 (by omega) ?_)
  exact hP
theorem s_ruleOf {k i0 m s : Nat} {C : Nat → Int32} (hk4 : k < 4) (hC : (l (34 + 2 * k + 1)).length = 60) (hCt : ∀ t, C t = (l (34 + 2 * k + 1)).getD (i0 + t) 0) (hm : m < 4) (hs : s < 3) (hi : i0 + 17 ≤ 60) (hP : P (some (.int (dv (C (5 + (3 * m + s)))))) (wW f l q)) : ba_go scr ix_X6_ruleOf 0 [some (.ref (34 + 2 * k + 1)), some (.int (nI i0)), some (.int (nI m)), some (.int (nI s))] [] (wW f l q) 0 0 P := by
  have x1 : nI i0 + Int32.ofInt 5 + nI m * Int32.ofInt 3 + nI s = nI (i0 + (5 + (3 * m + s))) := by
    show nI i0 + nI 5 + nI m * nI 3 + nI s = _
    rw [nI_mul, nI_add, nI_add, nI_add]
    congr 1
    omega
  rw [hCt] at hP
  refine run_X6_ruleOf 40 ?_
  refine And.intro rfl (s_digit hk4 hC x1 (by omega) ?_)
  exact hP
theorem s_readPerson {k i0 p : Nat} {C : Nat → Int32} (hk4 : k < 4) (hC : (l (34 + 2 * k + 1)).length = 60) (hCt : ∀ t, C t = (l (34 + 2 * k + 1)).getD (i0 + t) 0) (hp : p < 6) (hi : i0 + (17 + 5 * p + 4) < 60)
    (hP : ∀ F : Nat → Nat → Int32, (∀ x y, ¬ x = 9 + p → F x y = f x y) → (F (9 + p) 0 = kd (C (17 + 5 * p + 1)) ∧ F (9 + p) 1 = dv (C (17 + 5 * p + 2)) ∧ F (9 + p) 2 = dv (C (17 + 5 * p + 3)) ∧ F (9 + p) 3 = dv (C (17 + 5 * p + 4))) → P none (wW F l q)) :
    ba_go scr ix_X6_readPerson 0 [some (.ref (34 + 2 * k + 1)), some (.int (nI i0)), some (.int (nI p)), some (.ref (9 + p + 1)), none] [] (wW f l q) 0 0 P := by
  have xs : ∀ j : Nat, nI i0 + (Int8.ofInt 17).toInt32 + nI p * Int32.ofInt 5 + nI j = nI (i0 + (17 + 5 * p + j)) := fun j => by
    show nI i0 + nI 17 + nI p * nI 5 + nI j = _
    rw [nI_mul, nI_add, nI_add, nI_add]
    congr 1
    omega
  have isC : ∀ F : Nat → Nat → Int32, ba_isC (wW F l q) (34 + 2 * k + 1) 5 = true := fun F => isC_of (sh_fld hk4).2.2.2.2
  refine run_X6_readPerson 60 ?_
  refine And.intro (ck rfl rfl rfl rfl (isC _)) (s_atn (t := i0 + (17 + 5 * p + 1)) hk4 hC (xs 1) (by omega) ?_)
  rw [← hCt]
  refine And.intro rfl (s_kindOf ?_)
  refine Exists.intro _ (And.intro (people_set (f := f) hp (by decide)) ?_)
  obtain ⟨F1, h1⟩ : ∃ F1, F1 = u2 f (9 + p) 0 (kd (C (17 + 5 * p + 1))) := ⟨_, rfl⟩
  rw [← h1]
  refine And.intro rfl (s_digit (f := F1) (t := i0 + (17 + 5 * p + 2)) hk4 hC (xs 2) (by omega) ?_)
  rw [← hCt]
  refine Exists.intro _ (And.intro (people_set (f := F1) hp (by decide)) ?_)
  obtain ⟨F2, h2⟩ : ∃ F2, F2 = u2 F1 (9 + p) 1 (dv (C (17 + 5 * p + 2))) := ⟨_, rfl⟩
  rw [← h2]
  refine And.intro rfl (s_digit (f := F2) (t := i0 + (17 + 5 * p + 3)) hk4 hC (xs 3) (by omega) ?_)
  rw [← hCt]
  refine Exists.intro _ (And.intro (people_set (f := F2) hp (by decide)) ?_)
  obtain ⟨F3, h3⟩ : ∃ F3, F3 = u2 F2 (9 + p) 2 (dv (C (17 + 5 * p + 3))) := ⟨_, rfl⟩
  rw [← h3]
  refine And.intro rfl (s_digit (f := F3) (t := i0 + (17 + 5 * p + 4)) hk4 hC (xs 4) (by omega) ?_)
  rw [← hCt]
  refine Exists.intro _ (And.intro (people_set (f := F3) hp (by decide)) ?_)
  refine hP _ (fun x y hx => by rw [u2_ne hx, h3, u2_ne hx, h2, u2_ne hx, h1, u2_ne hx]) ⟨?_, ?_, ?_, ?_⟩
  · rw [u2_nj (by decide), h3, u2_nj (by decide), h2, u2_nj (by decide), h1, u2_eq]
  · rw [u2_nj (by decide), h3, u2_nj (by decide), h2, u2_eq]
  · rw [u2_nj (by decide), h3, u2_eq]
  · rw [u2_eq]
theorem set_3 {X : List Int32} : (wW f l q).set 3 (.inl (.int, .inl X)) = wW f (u1 l 3 X) q := rfl
theorem s_beginsW {k i0 np : Nat} {C : Nat → Int32} (hk4 : k < 4) (hC : (l (34 + 2 * k + 1)).length = 60) (hCt : ∀ t, C t = (l (34 + 2 * k + 1)).getD (i0 + t) 0) (hnp : np ≤ 6) (hi : i0 + 17 + 5 * np ≤ 60) (h3 : (l 3).length = 2) (h5 : (l 5).length = 12)
    (hP : ∀ F L, CE C f F l L np → P none (wW F L q)) : ba_go scr ix_X7_begins 0 [some (.ref 3), some (.ref (34 + 2 * k + 1)), some (.int (nI i0)), some (.int (nI np)), none, none] [] (wW f l q) 0 0 P := by
  have shL : ∀ L : Nat → List Int32, (∀ x, ¬ x = 3 → ¬ x = 5 → L x = l x) → L (34 + 2 * k + 1) = l (34 + 2 * k + 1) := fun L h => h _ (by omega) (by omega)
  -- people
  have people : ∀ (m p : Nat) (x : Int32) (z : Option Value) (F : Nat → Nat → Int32) (L : Nat → List Int32), p + m = np → x = nI p → (∀ x, ¬ x = 3 → ¬ x = 5 → L x = l x) → ((L 3).length = 2 ∧ ∀ o, o < 2 → (L 3).getD o 0 = ik C o) → ((L 5).length = 12 ∧ ∀ j, j < 12 → (L 5).getD j 0 = dv (C (5 + j))) → (∀ x y, ¬ x = 2 → ¬ (9 ≤ x ∧ x < 15) → F x y = f x y) → F 2 3 = nI np →
      (∀ t, t < p → F (9 + t) 0 = kd (C (17 + 5 * t + 1)) ∧ F (9 + t) 1 = dv (C (17 + 5 * t + 2)) ∧ F (9 + t) 2 = dv (C (17 + 5 * t + 3)) ∧ F (9 + t) 3 = dv (C (17 + 5 * t + 4))) → (∀ t y, p ≤ t → t < 6 → F (9 + t) y = f (9 + t) y) →
      ba_go scr ix_X7_begins 87 [some (.ref 3), some (.ref (34 + 2 * k + 1)), some (.int (nI i0)), some (.int (nI np)), some (.int x), z] [] (wW F L q) 0 0 P := by
    intro m
    induction m with
    | zero =>
      intro p x z F L g1 g2 gL g3 g5 gF gn ga gb
      subst g2
      have h4 : p = np := by omega
      subst h4
      refine run_X7_begins 6 ?_
      refine Exists.intro _ (And.intro (rfl) ?_)
      rw [gn]
      refine And.intro (fun _ => ?_) (fun e => absurd (by show nI p ≤ nI p; rw [le_i]; omega) e)
      exact hP F L ⟨⟨gF, gL⟩, g3, g5, gn, ga, gb⟩
    | succ m ih =>
      intro p x z F L g1 g2 gL g3 g5 gF gn ga gb
      subst g2
      refine run_X7_begins 14 ?_
      refine Exists.intro _ (And.intro (rfl) ?_)
      rw [gn]
      refine And.intro (fun e => absurd e (by show ¬ nI np ≤ nI p; rw [le_i, nI_toInt (by omega), nI_toInt (by omega)]; omega)) (fun _ => ?_)
      refine Exists.intro _ (And.intro (rfl) ?_)
      refine Exists.intro _ (And.intro (ps_ldn (b := 2) (Or.inl rfl) (by omega)) ?_)
      refine And.intro rfl (s_readPerson (f := F) (l := L) (C := C) hk4 (by rw [shL L gL]; exact hC) (fun t => by rw [shL L gL]; exact hCt t) (by omega) (by omega) (fun F2 k1 k2 => ?_))
      refine ih (p + 1) _ _ F2 L (by omega) (nI_1 p) gL g3 g5 (fun x y a b => by rw [k1 _ _ (by omega)]; exact gF x y a b) (by rw [k1 _ _ (by omega)]; exact gn) (fun t ht => ?_) (fun t y a b => by rw [k1 _ _ (by omega)]; exact gb t y (by omega) b)
      by_cases e : t = p
      · subst e; exact k2
      · rw [k1 _ _ (by omega), k1 _ _ (by omega), k1 _ _ (by omega), k1 _ _ (by omega)]
        exact ga t (by omega)
  -- rules
  have i3 : (Int32.ofInt 3).toInt = 3 := rfl
  have i4 : (Int32.ofInt 4).toInt = 4 := rfl
  have rules : ∀ (m r : Nat) (x : Int32) (z : Option Value) (L : Nat → List Int32), r + m = 4 → x = nI r → (∀ x, ¬ x = 3 → ¬ x = 5 → L x = l x) → ((L 3).length = 2 ∧ ∀ o, o < 2 → (L 3).getD o 0 = ik C o) → ((L 5).length = 12 ∧ ∀ j, j < 3 * r → (L 5).getD j 0 = dv (C (5 + j))) →
      ba_go scr ix_X7_begins 32 [some (.ref 3), some (.ref (34 + 2 * k + 1)), some (.int (nI i0)), some (.int (nI np)), some (.int x), z] [] (wW f L q) 0 0 P := by
    intro m
    induction m with
    | zero =>
      intro r x z L g1 g2 gL g3 g5
      subst g2
      have h4 : r = 4 := by omega
      subst h4
      refine run_X7_begins 8 ?_
      refine And.intro (fun _ => ?_) (fun e => absurd (by decide) e)
      refine Exists.intro (wW (u2 f 2 3 (nI np)) L q) (And.intro rfl ?_)
      exact people np 0 _ _ _ L (by omega) rfl gL g3 g5 (fun x y a b => u2_ne a) u2_eq (fun t ht => absurd ht (by omega)) (fun t y a b => u2_ne (by omega))
    | succ m ih =>
      intro r x z L g1 g2 gL g3 g5
      subst g2
      have inner : ∀ (m' s : Nat) (y : Int32) (L : Nat → List Int32), s + m' = 3 → y = nI s → (∀ x, ¬ x = 3 → ¬ x = 5 → L x = l x) → ((L 3).length = 2 ∧ ∀ o, o < 2 → (L 3).getD o 0 = ik C o) → ((L 5).length = 12 ∧ ∀ j, j < 3 * r + s → (L 5).getD j 0 = dv (C (5 + j))) →
          ba_go scr ix_X7_begins 41 [some (.ref 3), some (.ref (34 + 2 * k + 1)), some (.int (nI i0)), some (.int (nI np)), some (.int (nI r)), some (.int y)] [] (wW f L q) 0 0 P := by
        intro m'
        induction m' with
        | zero =>
          intro s y L a1 a2 gL g3 g5
          subst a2
          have h4 : s = 3 := by omega
          subst h4
          refine run_X7_begins 5 ?_
          refine And.intro (fun _ => ?_) (fun e => absurd (by decide) e)
          exact ih (r + 1) _ _ L (by omega) (nI_1 r) gL g3 ⟨g5.1, fun j hj => g5.2 j (by omega)⟩
        | succ m' ih' =>
          intro s y L a1 a2 gL g3 g5
          subst a2
          have hidx := idx3 (m := nI r) (s := nI s) (by rw [nI_toInt (by omega)]; omega) (by rw [nI_toInt (by omega)]; omega) (by rw [nI_toInt (by omega)]; omega) (by rw [nI_toInt (by omega)]; omega)
          rw [nI_toInt (by omega), nI_toInt (by omega)] at hidx
          have hcl : (nI r * 3 + nI s).toNatClampNeg = 3 * r + s := by
            have := ix_i (x := nI r * 3 + nI s) (by omega)
            omega
          refine run_X7_begins 15 ?_
          refine And.intro (fun e => absurd e (by show ¬ Int32.ofInt 3 ≤ nI s; rw [le_i, nI_toInt (by omega), i3]; omega)) (fun _ => ?_)
          refine Exists.intro _ (And.intro (rfl) ?_)
          refine And.intro rfl (s_ruleOf (l := L) (C := C) hk4 (by rw [shL L gL]; exact hC) (fun t => by rw [shL L gL]; exact hCt t) (show r < 4 by omega) (show s < 3 by omega) (by omega) ?_)
          refine And.intro rfl (s_become (b := 2) (l := L) (Or.inl rfl) g5.1 (by rw [nI_toInt (by omega)]; omega) (by rw [nI_toInt (by omega)]; omega) (by rw [nI_toInt (by omega)]; omega) (by rw [nI_toInt (by omega)]; omega) ?_)
          refine ih' (s + 1) _ (u1 L 5 ((L 5).set (nI r * 3 + nI s).toNatClampNeg (dv (C (5 + (3 * r + s)))))) (by omega) (nI_1 s) (fun x a b => by rw [u1_ne b]; exact gL x a b) (by rw [u1_ne (by decide)]; exact g3) ⟨by rw [u1_eq, List.length_set]; exact g5.1, fun j hj => ?_⟩
          rw [u1_eq, hcl, getD_set]
          by_cases h : 3 * r + s = j
          · rw [if_pos ⟨h, by rw [g5.1]; omega⟩, h]
          · rw [if_neg (fun e => h e.1)]
            exact g5.2 j (by omega)
      refine run_X7_begins 5 ?_
      refine And.intro (fun e => absurd e (by show ¬ Int32.ofInt 4 ≤ nI r; rw [le_i, nI_toInt (by omega), i4]; omega)) (fun _ => ?_)
      exact inner 3 0 _ L rfl rfl gL g3 ⟨g5.1, fun j hj => g5.2 j (by omega)⟩
  -- inks
  have i2 : (Int32.ofInt 2).toInt = 2 := rfl
  have inks : ∀ (m o : Nat) (x : Int32) (X : List Int32), o + m = 2 → x = nI o → (X.length = 2 ∧ ∀ j, j < o → X.getD j 0 = ik C j) → ba_go scr ix_X7_begins 3 [some (.ref 3), some (.ref (34 + 2 * k + 1)), some (.int (nI i0)), some (.int (nI np)), some (.int x), none] [] (wW f (u1 l 3 X) q) 0 0 P := by
    intro m
    induction m with
    | zero =>
      intro o x X g1 g2 gX
      subst g2
      have h4 : o = 2 := by omega
      subst h4
      refine run_X7_begins 5 ?_
      refine And.intro (fun _ => ?_) (fun e => absurd (by decide) e)
      exact rules 4 0 _ _ (u1 l 3 X) rfl rfl (fun x a b => u1_ne a) (by rw [u1_eq]; exact gX) ⟨h5, fun j hj => absurd hj (by omega)⟩
    | succ m ih =>
      intro o x X g1 g2 gX
      subst g2
      have st : ∀ v, ba_stI (wW f (u1 l 3 X) q) 4 (nI o) v = some (wW f (u1 l 3 (X.set o v)) q) := fun v => by
        rw [stI_of (l := X) rfl (by rw [nI_toInt (by omega)]; omega) (by rw [nI_toInt (by omega), gX.1]; omega), nI_clamp (by omega), set_3, u1_u1]
      refine run_X7_begins 13 ?_
      refine And.intro (fun e => absurd e (by show ¬ Int32.ofInt 2 ≤ nI o; rw [le_i, nI_toInt (by omega), i2]; omega)) (fun _ => ?_)
      refine Exists.intro _ (And.intro (rfl) ?_)
      refine And.intro rfl (s_inkOf (l := u1 l 3 X) (C := C) hk4 (by rw [u1_ne (by omega)]; exact hC) (fun t => by rw [u1_ne (by omega)]; exact hCt t) (show o < 2 by omega) (by omega) rfl ?_)
      refine Exists.intro _ (And.intro (st _) ?_)
      refine ih (o + 1) _ _ (by omega) (nI_1 o) ⟨by rw [List.length_set]; exact gX.1, fun j hj => ?_⟩
      rw [getD_set]
      by_cases h : o = j
      · rw [if_pos ⟨h, by rw [gX.1]; omega⟩, h]
      · rw [if_neg (fun e => h e.1)]
        exact gX.2 j (by omega)
  refine run_X7_begins 2 ?_
  have h := inks 2 0 0 (l 3) rfl rfl ⟨h3, fun j hj => absurd hj (by omega)⟩
  rw [u1_self] at h
  exact h
end WB
