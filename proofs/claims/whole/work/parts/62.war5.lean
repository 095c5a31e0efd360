/-! war: what the reference takes over; the worlds fit behind it -/
theorem listx {n : Nat} {A B : List Int32} (hA : A.length = n) (hB : B.length = n) (h : ∀ p, p < n → A.getD p 0 = B.getD p 0) : A = B := by
  apply List.ext_getElem?
  intro j
  by_cases hj : j < n
  · have := h j hj
    rw [List.getD_eq_getElem?_getD, List.getD_eq_getElem?_getD, List.getElem?_eq_getElem (by omega), List.getElem?_eq_getElem (by omega)] at this
    rw [List.getElem?_eq_getElem (by omega), List.getElem?_eq_getElem (by omega)]
    exact congrArg some this
  · rw [List.getElem?_eq_none (by omega), List.getElem?_eq_none (by omega)]
section WE
variable {scr : Option (List Int32)} {P : ba_P} {w : ba_W} {f : Nat → Nat → Int32} {l : Nat → List Int32} {q : Nat → List Int64}
variable {F : Nat → Nat → Int32} {L G : Nat → List Int32}
theorem r_warTail {np t : Nat} {k a i n r0 : Int32} (hR : RS f F l L t np) (hnp : np ≤ 6) (h43 : (L 43).length = 2) (h44 : (L 44).length = 12) (h45 : (L 45).length = 6 ∧ (L 46).length = 6 ∧ (L 47).length = 6 ∧ (L 48).length = 6)
    (hP : ∀ G, (∀ x, ¬ (43 ≤ x ∧ x ≤ 48) → G x = L x) → G 43 = L 49 → G 44 = L 50 → ((G 45).length = 6 ∧ (G 46).length = 6 ∧ (G 47).length = 6 ∧ (G 48).length = 6) →
      (∀ p, p < np → (G 45).getD p 0 = (L 51).getD p 0 ∧ (G 46).getD p 0 = (L 52).getD p 0 ∧ (G 47).getD p 0 = (L 53).getD p 0 ∧ (G 48).getD p 0 = (L 54).getD p 0) → (∀ p, np ≤ p → (G 45).getD p 0 = (L 45).getD p 0 ∧ (G 46).getD p 0 = (L 46).getD p 0 ∧ (G 47).getD p 0 = (L 47).getD p 0 ∧ (G 48).getD p 0 = (L 48).getD p 0) →
      P (some (.int (nI np))) (wW (u2 (u2 (u2 (u2 F 42 1 (nI np)) 42 2 0) 42 22 0) 42 0 0) G q)) :
    ba_go scr ix_X9_war 79 [some (.ref 43), some (.int k), some (.int a), some (.int i), some (.int n), some (.int r0), none] [] (wW F L q) 0 0 P := by
  obtain ⟨n49, n50, n51, n52, n53, n54⟩ := hR.2.2.1
  have h10 := hR.2.2.2.2
  have i12 : ((Int8.ofInt 12).toInt32).toInt = 12 := by decide
  obtain ⟨F2, hF2⟩ : ∃ F2, F2 = u2 (u2 F 42 1 (nI np)) 42 2 0 := ⟨_, rfl⟩
  rw [← hF2] at hP
  have f1 : F2 42 1 = nI np := by rw [hF2, u2_nj (by decide), u2_eq]
  -- people
  have people : ∀ (m p : Nat) (x : Int32) (G : Nat → List Int32), p + m = np → x = nI p → (∀ x, ¬ (43 ≤ x ∧ x ≤ 48) → G x = L x) → G 43 = L 49 → G 44 = L 50 → ((G 45).length = 6 ∧ (G 46).length = 6 ∧ (G 47).length = 6 ∧ (G 48).length = 6) →
      (∀ t, t < p → (G 45).getD t 0 = (L 51).getD t 0 ∧ (G 46).getD t 0 = (L 52).getD t 0 ∧ (G 47).getD t 0 = (L 53).getD t 0 ∧ (G 48).getD t 0 = (L 54).getD t 0) → (∀ t, p ≤ t → (G 45).getD t 0 = (L 45).getD t 0 ∧ (G 46).getD t 0 = (L 46).getD t 0 ∧ (G 47).getD t 0 = (L 47).getD t 0 ∧ (G 48).getD t 0 = (L 48).getD t 0) →
      ba_go scr ix_X9_war 149 [some (.ref 43), some (.int k), some (.int a), some (.int i), some (.int n), some (.int r0), some (.int x)] [] (wW F2 G q) 0 0 P := by
    intro m
    induction m with
    | zero =>
      intro p x G g1 g2 gx g43 g44 gl ga gb
      subst g2
      have h4 : p = np := by omega
      subst h4
      refine run_X9_war 4 ?_
      refine Exists.intro _ (And.intro (rfl) ?_)
      rw [f1]
      refine And.intro (fun _ => ?_) (fun e => absurd (by show nI p ≤ nI p; rw [le_i]; omega) e)
      refine run_X9_war 10 ?_
      refine Exists.intro (wW (u2 F2 42 22 0) G q) (And.intro rfl ?_)
      refine Exists.intro _ (And.intro (rfl) ?_)
      rw [u2_nj (show ¬ 1 = 22 by decide), f1]
      refine And.intro rfl (r_refused ?_)
      exact hP G gx g43 g44 gl ga gb
    | succ m ih =>
      intro p x G g1 g2 gx g43 g44 gl ga gb
      subst g2
      have hi0 : 0 ≤ (nI p).toInt := by rw [nI_toInt (by omega)]; omega
      have hi6 : (nI p).toInt < (6 : Nat) := by rw [nI_toInt (by omega)]; omega
      have hcl : (nI p).toNatClampNeg = p := nI_clamp (by omega)
      have gy : ∀ x, 49 ≤ x → G x = L x := fun x hx => gx x (by omega)
      have ld : ∀ (c : Nat) (H : Nat → List Int32) (xs : Option (List Int32)), (wW F2 H q)[c]? = some (.inl (.int, .inl (H c))) → (H c).length = 6 → ba_ldI xs (wW F2 H q) (c + 1) (nI p) = some ((H c).getD p 0) := fun c H xs hw hl => by
        rw [ldI_of (l := H c) hw hi0 (by rw [hl]; exact hi6), hcl]
      have st : ∀ (c : Nat) (H : Nat → List Int32) (v : Int32), (wW F2 H q)[c]? = some (.inl (.int, .inl (H c))) → (H c).length = 6 → (∀ X, (wW F2 H q).set c (.inl (.int, .inl X)) = wW F2 (u1 H c X) q) → ba_stI (wW F2 H q) (c + 1) (nI p) v = some (wW F2 (u1 H c ((H c).set p v)) q) := fun c H v hw hl hs => by
        rw [stI_of (l := H c) hw hi0 (by rw [hl]; exact hi6), hcl, hs]
      obtain ⟨G1, hG1⟩ : ∃ G1, G1 = u1 G 45 ((G 45).set p ((G 51).getD p 0)) := ⟨_, rfl⟩
      obtain ⟨G2, hG2⟩ : ∃ G2, G2 = u1 G1 46 ((G1 46).set p ((G1 52).getD p 0)) := ⟨_, rfl⟩
      obtain ⟨G3, hG3⟩ : ∃ G3, G3 = u1 G2 47 ((G2 47).set p ((G2 53).getD p 0)) := ⟨_, rfl⟩
      obtain ⟨G4, hG4⟩ : ∃ G4, G4 = u1 G3 48 ((G3 48).set p ((G3 54).getD p 0)) := ⟨_, rfl⟩
      have a1 : ∀ x, ¬ x = 45 → G1 x = G x := fun x hx => by rw [hG1, u1_ne hx]
      have a2 : ∀ x, ¬ x = 46 → G2 x = G1 x := fun x hx => by rw [hG2, u1_ne hx]
      have a3 : ∀ x, ¬ x = 47 → G3 x = G2 x := fun x hx => by rw [hG3, u1_ne hx]
      have a4 : ∀ x, ¬ x = 48 → G4 x = G3 x := fun x hx => by rw [hG4, u1_ne hx]
      have e45 : G4 45 = (G 45).set p ((L 51).getD p 0) := by rw [a4 45 (by decide), a3 45 (by decide), a2 45 (by decide), hG1, u1_eq, gy 51 (by decide)]
      have e46 : G4 46 = (G 46).set p ((L 52).getD p 0) := by rw [a4 46 (by decide), a3 46 (by decide), hG2, u1_eq, a1 46 (by decide), a1 52 (by decide), gy 52 (by decide)]
      have e47 : G4 47 = (G 47).set p ((L 53).getD p 0) := by rw [a4 47 (by decide), hG3, u1_eq, a2 47 (by decide), a1 47 (by decide), a2 53 (by decide), a1 53 (by decide), gy 53 (by decide)]
      have e48 : G4 48 = (G 48).set p ((L 54).getD p 0) := by rw [hG4, u1_eq, a3 48 (by decide), a2 48 (by decide), a1 48 (by decide), a3 54 (by decide), a2 54 (by decide), a1 54 (by decide), gy 54 (by decide)]
      have eo : ∀ x, ¬ (45 ≤ x ∧ x ≤ 48) → G4 x = G x := fun x hx => by rw [a4 x (by omega), a3 x (by omega), a2 x (by omega), a1 x (by omega)]
      refine run_X9_war 38 ?_
      refine Exists.intro _ (And.intro (rfl) ?_)
      rw [f1]
      refine And.intro (fun e => absurd e (by show ¬ nI np ≤ nI p; rw [le_i, nI_toInt (by omega), nI_toInt (by omega)]; omega)) (fun _ => ?_)
      refine Exists.intro _ (And.intro (rfl) ?_)
      refine Exists.intro _ (And.intro (rfl) ?_)
      refine Exists.intro _ (And.intro (ld 51 G _ rfl (by rw [gy 51 (by decide)]; exact n51)) ?_)
      refine Exists.intro _ (And.intro (st 45 G _ rfl gl.1 (fun X => rfl)) ?_)
      rw [← hG1]
      refine Exists.intro _ (And.intro (rfl) ?_)
      refine Exists.intro _ (And.intro (rfl) ?_)
      refine Exists.intro _ (And.intro (ld 52 G1 _ rfl (by rw [a1 52 (by decide), gy 52 (by decide)]; exact n52)) ?_)
      refine Exists.intro _ (And.intro (st 46 G1 _ rfl (by rw [a1 46 (by decide)]; exact gl.2.1) (fun X => rfl)) ?_)
      rw [← hG2]
      refine Exists.intro _ (And.intro (rfl) ?_)
      refine Exists.intro _ (And.intro (rfl) ?_)
      refine Exists.intro _ (And.intro (ld 53 G2 _ rfl (by rw [a2 53 (by decide), a1 53 (by decide), gy 53 (by decide)]; exact n53)) ?_)
      refine Exists.intro _ (And.intro (st 47 G2 _ rfl (by rw [a2 47 (by decide), a1 47 (by decide)]; exact gl.2.2.1) (fun X => rfl)) ?_)
      rw [← hG3]
      refine Exists.intro _ (And.intro (rfl) ?_)
      refine Exists.intro _ (And.intro (rfl) ?_)
      refine Exists.intro _ (And.intro (ld 54 G3 _ rfl (by rw [a3 54 (by decide), a2 54 (by decide), a1 54 (by decide), gy 54 (by decide)]; exact n54)) ?_)
      refine Exists.intro _ (And.intro (st 48 G3 _ rfl (by rw [a3 48 (by decide), a2 48 (by decide), a1 48 (by decide)]; exact gl.2.2.2) (fun X => rfl)) ?_)
      rw [← hG4]
      refine ih (p + 1) _ G4 (by omega) (nI_1 p) (fun x hx => by rw [eo x (by omega)]; exact gx x hx) (by rw [eo 43 (by omega)]; exact g43) (by rw [eo 44 (by omega)]; exact g44) (by rw [e45, e46, e47, e48, List.length_set, List.length_set, List.length_set, List.length_set]; exact gl) (fun t ht => ?_) (fun t ht => ?_)
      · rw [e45, e46, e47, e48, getD_set, getD_set, getD_set, getD_set]
        by_cases e : p = t
        · subst e
          rw [if_pos ⟨rfl, by omega⟩, if_pos ⟨rfl, by omega⟩, if_pos ⟨rfl, by omega⟩, if_pos ⟨rfl, by omega⟩]
          exact ⟨rfl, rfl, rfl, rfl⟩
        · rw [if_neg (fun g => e g.1), if_neg (fun g => e g.1), if_neg (fun g => e g.1), if_neg (fun g => e g.1)]
          exact ga t (by omega)
      · rw [e45, e46, e47, e48, getD_set, getD_set, getD_set, getD_set, if_neg (by omega), if_neg (by omega), if_neg (by omega), if_neg (by omega)]
        exact gb t (by omega)
  -- rules
  have rules : ∀ (m r : Nat) (x : Int32) (B : List Int32), r + m = 12 → x = nI r → B.length = 12 → (∀ j, j < r → B.getD j 0 = (L 50).getD j 0) → ba_go scr ix_X9_war 119 [some (.ref 43), some (.int k), some (.int a), some (.int i), some (.int n), some (.int r0), some (.int x)] [] (wW F2 (u1 (u1 L 43 (L 49)) 44 B) q) 0 0 P := by
    intro m
    induction m with
    | zero =>
      intro r x B g1 g2 gl ga
      subst g2
      have h4 : r = 12 := by omega
      subst h4
      have eB : B = L 50 := listx gl n50 ga
      refine run_X9_war 5 ?_
      refine And.intro (fun _ => ?_) (fun e => absurd (by decide) e)
      exact people np 0 _ _ (by omega) rfl (fun x hx => by rw [u1_ne (by omega), u1_ne (by omega)]) (by rw [u1_ne (by decide), u1_eq]) (by rw [u1_eq, eB]) (by rw [u1_ne (by decide), u1_ne (by decide), u1_ne (by decide), u1_ne (by decide), u1_ne (by decide), u1_ne (by decide), u1_ne (by decide), u1_ne (by decide)]; exact h45) (fun t ht => absurd ht (by omega)) (fun t ht => by rw [u1_ne (by decide), u1_ne (by decide), u1_ne (by decide), u1_ne (by decide), u1_ne (by decide), u1_ne (by decide), u1_ne (by decide), u1_ne (by decide)]; exact ⟨rfl, rfl, rfl, rfl⟩)
    | succ m ih =>
      intro r x B g1 g2 gl ga
      subst g2
      have ld : ∀ xs, ba_ldI xs (wW F2 (u1 (u1 L 43 (L 49)) 44 B) q) 51 (nI r) = some ((L 50).getD r 0) := fun xs => by
        rw [ldI_of (l := L 50) rfl (by rw [nI_toInt (by omega)]; omega) (by rw [nI_toInt (by omega), n50]; omega), nI_clamp (by omega)]
      have st : ∀ v, ba_stI (wW F2 (u1 (u1 L 43 (L 49)) 44 B) q) 45 (nI r) v = some (wW F2 (u1 (u1 L 43 (L 49)) 44 (B.set r v)) q) := fun v => by
        rw [stI_of (l := B) rfl (by rw [nI_toInt (by omega)]; omega) (by rw [nI_toInt (by omega), gl]; omega), nI_clamp (by omega)]
        show some (wW F2 (u1 (u1 (u1 L 43 (L 49)) 44 B) 44 (B.set r v)) q) = _
        rw [u1_u1]
      refine run_X9_war 13 ?_
      refine And.intro (fun e => absurd e (by show ¬ (Int8.ofInt 12).toInt32 ≤ nI r; rw [le_i, nI_toInt (by omega), i12]; omega)) (fun _ => ?_)
      refine Exists.intro _ (And.intro (rfl) ?_)
      refine Exists.intro _ (And.intro (rfl) ?_)
      refine Exists.intro _ (And.intro (ld _) ?_)
      refine Exists.intro _ (And.intro (st _) ?_)
      refine ih (r + 1) _ _ (by omega) (nI_1 r) (by rw [List.length_set]; exact gl) (fun j hj => ?_)
      rw [getD_set]
      by_cases e : r = j
      · rw [if_pos ⟨e, by omega⟩, e]
      · rw [if_neg (fun g => e g.1)]
        exact ga j (by omega)
  have a49 : ∀ (xs : Option (List Int32)) (X : List Int32) (j : Nat), j < 2 → ba_ldI xs (wW F2 (u1 L 43 X) q) 50 (nI j) = some ((L 49).getD j 0) := fun xs X j hj => by
    rw [ldI_of (l := L 49) rfl (by rw [nI_toInt (by omega)]; omega) (by rw [nI_toInt (by omega), n49]; omega), nI_clamp (by omega)]
  have a0 := fun xs => a49 xs (L 43) 0 (by decide)
  rw [u1_self] at a0
  have st : ∀ (X : List Int32) (j : Nat) (v : Int32), X.length = 2 → j < 2 → ba_stI (wW F2 (u1 L 43 X) q) 44 (nI j) v = some (wW F2 (u1 L 43 (X.set j v)) q) := fun X j v hX hj => by
    rw [stI_of (l := X) rfl (by rw [nI_toInt (by omega)]; omega) (by rw [nI_toInt (by omega), hX]; omega), nI_clamp (by omega), set_43, u1_u1]
  have st0 := fun v => st (L 43) 0 v h43 (by decide)
  rw [u1_self] at st0
  refine run_X9_war 25 ?_
  refine Exists.intro _ (And.intro (rfl) ?_)
  rw [h10]
  refine Exists.intro (wW (u2 F 42 1 (nI np)) L q) (And.intro rfl ?_)
  refine Exists.intro (wW (u2 (u2 F 42 1 (nI np)) 42 2 0) L q) (And.intro rfl ?_)
  rw [← hF2]
  refine Exists.intro _ (And.intro (rfl) ?_)
  refine Exists.intro _ (And.intro (rfl) ?_)
  refine Exists.intro _ (And.intro (a0 _) ?_)
  refine Exists.intro _ (And.intro (st0 _) ?_)
  refine Exists.intro _ (And.intro (rfl) ?_)
  refine Exists.intro _ (And.intro (rfl) ?_)
  refine Exists.intro _ (And.intro (a49 _ _ 1 (by decide)) ?_)
  refine Exists.intro _ (And.intro (st _ 1 _ (by rw [List.length_set]; exact h43) (by decide)) ?_)
  rw [set2 h43 n49]
  have h := rules 12 0 0 (L 44) rfl rfl h44 (fun j hj => absurd hj (by omega))
  rw [show u1 (u1 L 43 (L 49)) 44 (L 44) = u1 L 43 (L 49) from u1_self (l := u1 L 43 (L 49)) (i := 44)] at h
  exact h
theorem kd_i {c : Int32} (h : ¬ kd c = -9) : 0 ≤ (kd c).toInt ∧ (kd c).toInt ≤ 2 := by
  rw [kd_kd2 h]
  unfold kd2
  by_cases h1 : c = 112
  · rw [if_pos h1]; decide
  · rw [if_neg h1]
    by_cases h2 : c = 99
    · rw [if_pos h2]; decide
    · rw [if_neg h2]; decide
theorem ik_i {C : Nat → Int32} {o : Nat} (h1 : dg 9 (C (1 + 2 * o)) = true) (h2 : dg 9 (C (2 + 2 * o)) = true) : 0 ≤ (ik C o).toInt ∧ (ik C o).toInt ≤ 99 := by
  have d1 := (dg_v (by decide) (by decide)).mpr h1
  have d2 := (dg_v (by decide) (by decide)).mpr h2
  have e10 : (10 : Int32).toInt = 10 := rfl
  have e1 : (10 * dv (C (1 + 2 * o))).toInt = 10 * (dv (C (1 + 2 * o))).toInt := by rw [fb_mulI (by rw [e10]; omega) (by rw [e10]; omega), e10]
  unfold ik
  rw [fb_addI (by rw [e1]; omega) (by rw [e1]; omega), e1]
  omega
theorem inv_war {C : Nat → Int32} {np : Nat} (hI : Inv f l q) (hnp : np ≤ 6) (hu : upto C (17 + 5 * np))
    (hF : ∀ x y, ¬ x = 0 → ¬ x = 2 → ¬ (9 ≤ x ∧ x < 15) → ¬ x = 29 → ¬ x = 42 → F x y = f x y) (h42 : F 42 0 = 0 ∧ F 42 1 = nI np ∧ F 42 2 = 0 ∧ F 42 22 = 0 ∧ F 42 29 = f 42 29) (h0 : F 0 5 = 0 ∧ F 0 6 = 0) (h2 : F 2 3 = nI np) (h29 : F 29 3 = 0)
    (hp : ∀ p, p < np → F (9 + p) 0 = kd (C (17 + 5 * p + 1)) ∧ F (9 + p) 1 = dv (C (17 + 5 * p + 2)) ∧ F (9 + p) 2 = dv (C (17 + 5 * p + 3)) ∧ F (9 + p) 3 = dv (C (17 + 5 * p + 4))) (hq : ∀ p y, np ≤ p → p < 6 → F (9 + p) y = f (9 + p) y)
    (hG : ∀ x, ¬ x = 3 → ¬ x = 5 → ¬ (43 ≤ x ∧ x ≤ 54) → G x = l x) (G3 : (G 3).length = 2 ∧ ∀ o, o < 2 → (G 3).getD o 0 = ik C o) (G5 : (G 5).length = 12 ∧ ∀ j, j < 12 → (G 5).getD j 0 = dv (C (5 + j)))
    (G43 : (G 43).length = 2 ∧ ∀ o, o < 2 → (G 43).getD o 0 = ik C o) (G44 : (G 44).length = 12 ∧ ∀ j, j < 12 → (G 44).getD j 0 = dv (C (5 + j))) (Gl : (G 45).length = 6 ∧ (G 46).length = 6 ∧ (G 47).length = 6 ∧ (G 48).length = 6)
    (Gr : (G 49).length = 2 ∧ (G 50).length = 12 ∧ (G 51).length = 6 ∧ (G 52).length = 6 ∧ (G 53).length = 6 ∧ (G 54).length = 6)
    (ga : ∀ p, p < np → (G 45).getD p 0 = kd (C (17 + 5 * p + 1)) ∧ (G 46).getD p 0 = dv (C (17 + 5 * p + 2)) ∧ (G 47).getD p 0 = dv (C (17 + 5 * p + 3)) ∧ (G 48).getD p 0 = dv (C (17 + 5 * p + 4)))
    (gb : ∀ p, np ≤ p → (G 45).getD p 0 = (l 45).getD p 0 ∧ (G 46).getD p 0 = (l 46).getD p 0 ∧ (G 47).getD p 0 = (l 47).getD p 0 ∧ (G 48).getD p 0 = (l 48).getD p 0) : Inv F G q := by
  obtain ⟨-, -, -, ke⟩ := kv_inv hI
  obtain ⟨⟨⟨hn1, hn2, hn3⟩, hL, hE, hR⟩, hPp, hD, hM, hS⟩ := id hI
  have hf' : ∀ x, ¬ x = 0 → ¬ x = 2 → ¬ (9 ≤ x ∧ x < 15) → ¬ x = 29 → ¬ x = 42 → F x = f x := fun x a b c d e => funext fun y => hF x y a b c d e
  have g : ∀ x, ¬ (x = 3 ∨ x = 5 ∨ (43 ≤ x ∧ x ≤ 54)) → G x = l x := fun x hx => hG x (by omega) (by omega) (by omega)
  have digs : ∀ p, p < np → (0 ≤ (kd (C (17 + 5 * p + 1))).toInt ∧ (kd (C (17 + 5 * p + 1))).toInt ≤ 2) ∧ (0 ≤ (dv (C (17 + 5 * p + 2))).toInt ∧ (dv (C (17 + 5 * p + 2))).toInt ≤ 1) ∧ (0 ≤ (dv (C (17 + 5 * p + 3))).toInt ∧ (dv (C (17 + 5 * p + 3))).toInt ≤ 3) ∧ (0 ≤ (dv (C (17 + 5 * p + 4))).toInt ∧ (dv (C (17 + 5 * p + 4))).toInt ≤ 9) := fun p hpp => by
    have q1 := hu (17 + 5 * p + 1) (by omega)
    have q2 := hu (17 + 5 * p + 2) (by omega)
    have q3 := hu (17 + 5 * p + 3) (by omega)
    have q4 := hu (17 + 5 * p + 4) (by omega)
    rw [Gb_per (s := 1) (by omega) (by decide)] at q1
    rw [Gb_per (s := 2) (by omega) (by decide)] at q2
    rw [Gb_per (s := 3) (by omega) (by decide)] at q3
    rw [Gb_per (s := 4) (by omega) (by decide)] at q4
    have q1 : (!decide (kd (C (17 + 5 * p + 1)) = -9)) = true := q1
    exact ⟨kd_i (by simpa using q1), (dg_v (by decide) (by decide)).mpr q2, (dg_v (by decide) (by decide)).mpr q3, (dg_v (by decide) (by decide)).mpr q4⟩
  have pvs : ∀ p, p < 6 → pv (F (9 + p)) := fun p h6 => by
    by_cases h : p < np
    · obtain ⟨a1, a2, a3, a4⟩ := hp p h
      obtain ⟨d1, d2, d3, d4⟩ := digs p h
      unfold pv
      rw [a1, a2, a3, a4]
      exact ⟨d1, d2, d3, d4⟩
    · have e : F (9 + p) = f (9 + p) := funext fun y => hq p y (by omega) h6
      rw [e]
      exact hPp.at h6
  have cols : ∀ p, p < 6 → (G 45).getD p 0 = F (9 + p) 0 ∧ (G 46).getD p 0 = F (9 + p) 1 ∧ (G 47).getD p 0 = F (9 + p) 2 ∧ (G 48).getD p 0 = F (9 + p) 3 := fun p h6 => by
    by_cases h : p < np
    · obtain ⟨a1, a2, a3, a4⟩ := hp p h
      obtain ⟨b1, b2, b3, b4⟩ := ga p h
      rw [a1, a2, a3, a4]
      exact ⟨b1, b2, b3, b4⟩
    · obtain ⟨b1, b2, b3, b4⟩ := gb p (by omega)
      obtain ⟨c1, c2, c3, c4⟩ := ke p h6
      rw [b1, b2, b3, b4, hq p 0 (by omega) h6, hq p 1 (by omega) h6, hq p 2 (by omega) h6, hq p 3 (by omega) h6]
      exact ⟨c1, c2, c3, c4⟩
  refine ⟨⟨?_, ?_, ?_, ?_⟩, ?_, ?_, ?_, ?_⟩
  · unfold IvN
    rw [h2, h42.2.1, nI_toInt (by omega)]
    exact ⟨by omega, by omega, rfl⟩
  · unfold IvL
    rw [g 6 (by omega), g 7 (by omega), g 17 (by omega), g 19 (by omega), g 20 (by omega), g 21 (by omega), g 30 (by omega), g 31 (by omega), g 35 (by omega), g 37 (by omega), g 39 (by omega), g 41 (by omega), g 55 (by omega), g 56 (by omega), g 57 (by omega), g 62 (by omega), g 63 (by omega), g 64 (by omega), g 65 (by omega)]
    exact ⟨⟨G3.1, G5.1, hL.1.2.2⟩, hL.2.1, hL.2.2.1, hL.2.2.2.1, Gr, hL.2.2.2.2.2⟩
  · unfold IvE
    rw [g 60 (by omega), g 30 (by omega), g 61 (by omega), g 31 (by omega)]
    refine ⟨⟨listx G43.1 G3.1 (fun o ho => by rw [G43.2 o ho, G3.2 o ho]), listx G44.1 G5.1 (fun o ho => by rw [G44.2 o ho, G5.2 o ho])⟩, ⟨?_, ?_, ?_, ?_⟩, hE.2.2⟩
    · exact listx Gl.1 rfl (fun p hp => by rw [col_at hp]; exact (cols p hp).1)
    · exact listx Gl.2.1 rfl (fun p hp => by rw [col_at hp]; exact (cols p hp).2.1)
    · exact listx Gl.2.2.1 rfl (fun p hp => by rw [col_at hp]; exact (cols p hp).2.2.1)
    · exact listx Gl.2.2.2 rfl (fun p hp => by rw [col_at hp]; exact (cols p hp).2.2.2)
  · refine ⟨fun j hj => ?_, fun o ho => ?_⟩
    · rw [G5.2 j hj]
      have q1 := hu (5 + j) (by omega)
      rw [Gb_rule (by omega) (by omega)] at q1
      exact (dg_v (by decide) (by decide)).mpr q1
    · rw [G3.2 o ho]
      have q1 := hu (1 + 2 * o) (by omega)
      have q2 := hu (2 + 2 * o) (by omega)
      rw [Gb_ink (by omega) (by omega)] at q1 q2
      exact ik_i q1 q2
  · exact ⟨pvs 0 (by decide), pvs 1 (by decide), pvs 2 (by decide), pvs 3 (by decide), pvs 4 (by decide), pvs 5 (by decide)⟩
  · unfold IvD
    rw [h29, h42.2.2.2.1]
    exact ⟨⟨by decide, by decide⟩, rfl, fun k hk => absurd hk (by show ¬ k < 0; omega)⟩
  · unfold IvM
    rw [h42.2.2.1, h42.1, h42.2.2.2.2, h0.1, h0.2, hF 33 0 (by decide) (by decide) (by decide) (by decide) (by decide)]
    exact ⟨rfl, rfl, hM.2.2⟩
  · refine IvS.mk (fun j hj => ?_)
    have h1 := hS.at hj
    rw [g 62 (by omega), g 63 (by omega), g 64 (by omega), hf' (34 + 2 * j) (by omega) (by omega) (by omega) (by omega) (by omega), g (34 + 2 * j + 1) (by omega)]
    exact h1
end WE
