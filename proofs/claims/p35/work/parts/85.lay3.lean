/-! the law: a war is laid (2) -/
section LN
variable {scr : Option (List Int32)} {P : ba_P} {w : ba_W} {f : Nat → Nat → Int32} {l : Nat → List Int32} {q : List (List Int32)}
variable {F : Nat → Nat → Int32} {L : Nat → List Int32} {n : Nat} {sc : List Int32}
theorem y_rules (hsc : sc.length ≤ 3072) (h1 : f 34 1 = 0) (h2 : f 34 2 = 60)
    (K : ∀ F L, AL f F l L n 0 → ba_go (some sc) ix_L_lay 264 (YL [none, some (.int 1), none, none, none, none, none, none, none]) [] (wW F L q) 0 0 P) :
    ∀ (m i : Nat) (x : Int32) (F : Nat → Nat → Int32) (L : Nat → List Int32), i + m = 12 → x = nI i → B0 f F l L n → Ti L 2 → Tu L i → ba_go (some sc) ix_L_lay 197 (YL [none, some (.int 1), some (.int x), none, none, none, none, none, none]) [] (wW F L q) 0 0 P := by
  intro m
  induction m with
  | zero =>
    intro i x F L hi hx hB hT hU
    subst hx
    have e4 : i = 12 := by omega
    subst e4
    refine run_L_lay 3 ?_
    refine And.intro (fun _ => ?_) (fun e2 => absurd (by decide) e2)
    refine ba_le.weak ?_ (K F L ⟨hB, hT, hU, fun p hp => absurd hp (by omega)⟩)
    repeat (first | exact le_0 | refine le_s ?_ | refine le_n ?_)
  | succ m ih =>
    intro i x F L hi hx hB hT hU
    subst hx
    refine run_L_lay 12 ?_
    refine And.intro (fun e2 => absurd e2 (by show ¬ nI 12 ≤ nI i; rw [le_i, nI_toInt (by omega), nI_toInt (by omega)]; omega)) (fun _ => ?_)
    refine And.intro rfl (s_Lcell (j := 1) rfl hsc (by decide) (fun cv => ?_))
    obtain ⟨V, hV, eV⟩ := and_nI (cv >>> ((Int32.ofInt 2 * nI i) &&& 31)) (c := 3) (by decide)
    have st := stW (f := F) (l := L) (q := q) hB.2.2.1.2 (i := 4 + i) (v := nI V) (by omega) (nI_add 4 i)
    rw [← eV] at st
    refine run_L_lay 7 ?_
    refine Exists.intro _ (And.intro (st) ?_)
    rw [eV]
    obtain ⟨L1, hL1⟩ : ∃ L1, L1 = u1 L 42 ((L 42).set (4 + i) (nI V)) := ⟨_, rfl⟩
    rw [← hL1]
    have hB1 : B0 f F l L1 n := by rw [hL1]; exact hB.w (by omega)
    have hT1 : Ti L1 2 := by rw [hL1]; exact hT.w (by decide) (by omega)
    have hU1 : Tu L1 i := by rw [hL1]; exact hU.w (by omega) (by omega)
    have w4 : (L1 42).getD (4 + i) 0 = nI V := by rw [hL1, u1_eq, g_eq (by rw [hB.2.2.1.2]; omega)]
    have ew := ldW (f := F) (l := L1) (q := q) hB1.2.2.1.2 (i := 4 + i) (by omega) (nI_add 4 i)
    rw [w4] at ew
    have tv : (nI (48 + V)).toInt = 48 + V := by rw [nI_toInt (by omega)]; omega
    refine run_L_lay 15 ?_
    refine And.intro (fun e2 => absurd e2 (by decide)) (fun _ => ?_)
    refine Exists.intro _ (And.intro (ew _) ?_)
    refine And.intro rfl (c_put0 (I := 5 + i) (v := (Int8.ofInt 48).toInt32 + nI V) (nI_add 5 i) (by omega) hB1.2.2.1.1 (by rw [hB1.1 34 1 (by decide)]; exact h1) (by rw [hB1.1 34 2 (by decide)]; exact h2) (by show _ ≤ (nI 48 + nI V).toInt; rw [nI_add, tv]; omega) (by show (nI 48 + nI V).toInt < _; rw [nI_add, tv]; omega) ?_)
    have es : (Int8.ofInt 48).toInt32 + nI V = nI (48 + V) := nI_add 48 V
    rw [es]
    have hB2 := hB1.put (I := 5 + i) (v := nI (48 + V)) (by omega)
    have hT2 := hT1.put (I := 5 + i) (v := nI (48 + V)) (by decide) (by omega)
    have hU2 := hU1.put (I := 5 + i) (v := nI (48 + V)) (by omega) (by omega)
    have hU3 : Tu (u1 L1 35 ((L1 35).set (5 + i) (nI (48 + V)))) (i + 1) := hU2.s (show V < 4 by omega) (by rw [u1_ne (by decide)]; exact w4) (by rw [u1_eq, g_eq (by rw [hB1.2.2.1.1]; omega)])
    refine run_L_lay 7 ?_
    refine And.intro (fun e2 => absurd rfl e2) (fun _ => ?_)
    exact ih (i + 1) _ _ _ (by omega) (nI_1 i) hB2 hT2 hU3
theorem y_inks (h1 : f 34 1 = 0) (h2 : f 34 2 = 60)
    (K : ∀ F L, B0 f F l L n → Ti L 2 → ba_go (some sc) ix_L_lay 194 (YL [none, some (.int 1), none, none, none, none, none, none, none]) [] (wW F L q) 0 0 P) :
    ∀ (m i : Nat) (x : Int32) (F : Nat → Nat → Int32) (L : Nat → List Int32), i + m = 2 → x = nI i → B0 f F l L n → Wi L → Ti L i → ba_go (some sc) ix_L_lay 116 (YL [none, some (.int 1), some (.int x), none, none, none, none, none, none]) [] (wW F L q) 0 0 P := by
  intro m
  induction m with
  | zero =>
    intro i x F L hi hx hB hW hT
    subst hx
    have e4 : i = 2 := by omega
    subst e4
    refine run_L_lay 3 ?_
    refine And.intro (fun _ => ?_) (fun e2 => absurd (by decide) e2)
    refine ba_le.weak ?_ (K F L hB hT)
    repeat (first | exact le_0 | refine le_s ?_ | refine le_n ?_)
  | succ m ih =>
    intro i x F L hi hx hB hW hT
    subst hx
    obtain ⟨A, hA, a0⟩ := hW i (by omega)
    have ew := ldW (f := F) (l := L) (q := q) hB.2.2.1.2 (i := 1 + i) (by omega) (nI_add 1 i)
    rw [a0] at ew
    have e10 : nI A / (Int8.ofInt 10).toInt32 = nI (A / 10) := nI_div (b := 10) (by omega) (by decide)
    have m10 : nI A - nI A / (Int8.ofInt 10).toInt32 * (Int8.ofInt 10).toInt32 = nI (A % 10) := nI_mod (b := 10) (by omega) (by decide)
    have eI : Int32.ofInt 1 + Int32.ofInt 2 * nI i = nI (1 + 2 * i) := by
      show nI 1 + nI 2 * nI i = _
      rw [nI_mul, nI_add]
    have eI2 : Int32.ofInt 2 + Int32.ofInt 2 * nI i = nI (2 + 2 * i) := by
      show nI 2 + nI 2 * nI i = _
      rw [nI_mul, nI_add]
    have v1 : (Int8.ofInt 48).toInt32 + nI A / (Int8.ofInt 10).toInt32 = nI (48 + A / 10) := by rw [e10]; exact nI_add 48 _
    have v2 : (Int8.ofInt 48).toInt32 + (nI A - nI A / (Int8.ofInt 10).toInt32 * (Int8.ofInt 10).toInt32) = nI (48 + A % 10) := by rw [m10]; exact nI_add 48 _
    have t1 : (nI (48 + A / 10)).toInt = 48 + (A / 10 : Nat) := by rw [nI_toInt (by omega)]; omega
    have t2 : (nI (48 + A % 10)).toInt = 48 + (A % 10 : Nat) := by rw [nI_toInt (by omega)]; omega
    refine run_L_lay 22 ?_
    refine And.intro (fun e2 => absurd e2 (by show ¬ nI 2 ≤ nI i; rw [le_i, nI_toInt (by omega), nI_toInt (by omega)]; omega)) (fun _ => ?_)
    refine And.intro (fun e2 => absurd e2 (by decide)) (fun _ => ?_)
    refine Exists.intro _ (And.intro (ew _) ?_)
    refine And.intro (by decide) ?_
    have f1 : F 34 1 = 0 := by rw [hB.1 34 1 (by decide)]; exact h1
    have f2 : F 34 2 = 60 := by rw [hB.1 34 2 (by decide)]; exact h2
    refine And.intro rfl (c_put0 (I := 1 + 2 * i) (v := (Int8.ofInt 48).toInt32 + nI A / (Int8.ofInt 10).toInt32) eI (by omega) hB.2.2.1.1 f1 f2 (by rw [v1, t1]; omega) (by rw [v1, t1]; omega) ?_)
    rw [v1]
    obtain ⟨L1, hL1⟩ : ∃ L1, L1 = u1 L 35 ((L 35).set (1 + 2 * i) (nI (48 + A / 10))) := ⟨_, rfl⟩
    rw [← hL1]
    have hB1 : B0 f (u2 F 0 6 0) l L1 n := by rw [hL1]; exact hB.put (by omega)
    have hW1 : Wi L1 := by rw [hL1]; exact hW.put
    have hT1 : Ti L1 i := by rw [hL1]; exact hT.put (by omega) (by omega)
    have a1 : (L1 42).getD (1 + i) 0 = nI A := by rw [hL1, u1_ne (by decide)]; exact a0
    have b1 : (L1 35).getD (1 + 2 * i) 0 = nI (48 + A / 10) := by rw [hL1, u1_eq, g_eq (by rw [hB.2.2.1.1]; omega)]
    generalize u2 F 0 6 0 = F1 at *
    have g1 : F1 34 1 = 0 := by rw [hB1.1 34 1 (by decide)]; exact h1
    have g2 : F1 34 2 = 60 := by rw [hB1.1 34 2 (by decide)]; exact h2
    have ew1 := ldW (f := F1) (l := L1) (q := q) hB1.2.2.1.2 (i := 1 + i) (by omega) (nI_add 1 i)
    rw [a1] at ew1
    refine run_L_lay 19 ?_
    refine And.intro (fun e2 => absurd rfl e2) (fun _ => ?_)
    refine Exists.intro _ (And.intro (ew1 _) ?_)
    refine And.intro (by decide) ?_
    refine And.intro rfl (c_put0 (I := 2 + 2 * i) (v := (Int8.ofInt 48).toInt32 + (nI A - nI A / (Int8.ofInt 10).toInt32 * (Int8.ofInt 10).toInt32)) eI2 (by omega) hB1.2.2.1.1 g1 g2 (by rw [v2, t2]; omega) (by rw [v2, t2]; omega) ?_)
    rw [v2]
    have hB2 := hB1.put (I := 2 + 2 * i) (v := nI (48 + A % 10)) (by omega)
    have hW2 := hW1.put (I := 2 + 2 * i) (v := nI (48 + A % 10))
    have hT2 := hT1.put (I := 2 + 2 * i) (v := nI (48 + A % 10)) (by omega) (by omega)
    have hT3 : Ti (u1 L1 35 ((L1 35).set (2 + 2 * i) (nI (48 + A % 10)))) (i + 1) := hT2.s hA (by rw [u1_ne (by decide)]; exact a1) (by rw [u1_eq, g_ne (by omega)]; exact b1) (by rw [u1_eq, g_eq (by rw [hB1.2.2.1.1]; omega)])
    refine run_L_lay 7 ?_
    refine And.intro (fun e2 => absurd rfl e2) (fun _ => ?_)
    exact ih (i + 1) _ _ _ (by omega) (nI_1 i) hB2 hW2 hT3
theorem s_Llay (hsc : sc.length ≤ 3072) (h1 : f 34 1 = 0) (h2 : f 34 2 = 60) (h35 : (l 35).length = 60) (h42 : (l 42).length = 22) (hIv : IvP f) (hl : (l 6).length = 4 ∧ (l 7).length = 4 ∧ (l 30).length = 8 ∧ (l 31).length = 8) (hl2 : (l 3).length = 2 ∧ (l 5).length = 12)
    (K : ∀ n F L, SS F L n → F 29 3 = nI 0 → P (some (.int (nI n))) (wW F L q)) :
    ba_go (some sc) ix_L_lay 0 (YL [none, none, none, none, none, none, none, none, none]) [] (wW f l q) 0 0 P := by
  refine run_L_lay 3 ?_
  refine And.intro rfl (s_Lcell (j := 0) rfl hsc (by decide) (fun c => ?_))
  -- behind the inks
  have K90 : ∀ (n A B : Nat) (L : Nat → List Int32), 2 ≤ n → n ≤ 6 → A < 100 → B < 100 → (∀ x, ¬ x = 42 → L x = l x) → (L 42).length = 22 → (L 42).getD 0 0 = nI n → (L 42).getD 1 0 = nI A → (L 42).getD 2 0 = nI B → ba_go (some sc) ix_L_lay 90 (YL [none, none, none, none, none, none, none, none, none]) [] (wW f L q) 0 0 P := by
    intro n A B L hn2 hn6 hA hB hfr hlen w0 w1 w2
    have st := stW (f := f) (l := L) (q := q) hlen (i := 3) (v := Int32.ofInt 0) (by decide) (x := Int32.ofInt 3) rfl
    refine run_L_lay 9 ?_
    refine Exists.intro _ (And.intro (st) ?_)
    obtain ⟨L1, hL1⟩ : ∃ L1, L1 = u1 L 42 ((L 42).set 3 (Int32.ofInt 0)) := ⟨_, rfl⟩
    rw [← hL1]
    have x35 : L1 35 = l 35 := by rw [hL1, u1_ne (by decide)]; exact hfr 35 (by decide)
    have x42 : L1 42 = (L 42).set 3 (Int32.ofInt 0) := by rw [hL1]; exact u1_eq
    refine And.intro rfl (c_put0 (I := 0) (v := (Int8.ofInt 119).toInt32) rfl (by decide) (by rw [x35]; exact h35) h1 h2 (by decide) (by decide) ?_)
    have hB0 : B0 f (u2 f 0 6 0) l (u1 L1 35 ((L1 35).set 0 ((Int8.ofInt 119).toInt32))) n := by
      refine ⟨fun x y hx => u2_ne hx, fun x ha hb => ?_, ⟨?_, ?_⟩, ?_, ?_, ?_⟩
      · rw [u1_ne ha, hL1, u1_ne hb]; exact hfr x hb
      · rw [u1_eq, List.length_set, x35]; exact h35
      · rw [u1_ne (by decide), x42, List.length_set]; exact hlen
      · rw [u1_ne (by decide), x42, g_ne (by decide)]; exact w0
      · rw [u1_ne (by decide), x42, g_eq (by omega)]; rfl
      · rw [u1_eq, g_eq (by rw [x35]; omega)]; rfl
    have hWi : Wi (u1 L1 35 ((L1 35).set 0 ((Int8.ofInt 119).toInt32))) := fun x hx => by
      rw [u1_ne (by decide), x42, g_ne (by omega)]
      rcases (by omega : x = 0 ∨ x = 1) with e | e <;> subst e
      · exact ⟨A, hA, w1⟩
      · exact ⟨B, hB, w2⟩
    refine run_L_lay 7 ?_
    refine And.intro (fun e2 => absurd rfl e2) (fun _ => ?_)
    refine y_inks h1 h2 (fun F2 L2 hB2 hT2 => ?_) 2 0 0 _ _ rfl rfl hB0 hWi (fun x hx => absurd hx (by omega))
    refine run_L_lay 2 ?_
    refine y_rules hsc h1 h2 (fun F3 L3 hA3 => ?_) 12 0 0 _ _ rfl rfl hB2 hT2 (fun x hx => absurd hx (by omega))
    refine run_L_lay 4 ?_
    exact y_people hsc h1 h2 hn2 hn6 hIv hl hl2 (fun F L => K n F L) n 0 17 0 F3 L3 (Nat.zero_add n) rfl rfl hA3
  have K54 : ∀ (n A : Nat) (L : Nat → List Int32), 2 ≤ n → n ≤ 6 → A < 100 → (∀ x, ¬ x = 42 → L x = l x) → (L 42).length = 22 → (L 42).getD 0 0 = nI n → (L 42).getD 1 0 = nI A → ba_go (some sc) ix_L_lay 54 (YL [some (.int c), none, none, none, none, none, none, none, none]) [] (wW f L q) 0 0 P := by
    intro n A L hn2 hn6 hA hfr hlen w0 w1
    have K89 : ∀ B : Nat, B < 100 → ba_go (some sc) ix_L_lay 89 (YL [some (.int c), none, none, none, none, none, none, none, none]) [.int (nI B), .int (Int32.ofInt 2), .ref 43] (wW f L q) 0 0 P := by
      intro B hB
      have st := stW (f := f) (l := L) (q := q) hlen (i := 2) (v := nI B) (by decide) (x := Int32.ofInt 2) rfl
      refine run_L_lay 1 ?_
      refine Exists.intro _ (And.intro (st) ?_)
      refine ba_le.weak ?_ (K90 n A B _ hn2 hn6 hA hB (fun x hx => by rw [u1_ne hx]; exact hfr x hx) (by rw [u1_eq, List.length_set]; exact hlen) (by rw [u1_eq, g_ne (by decide)]; exact w0) (by rw [u1_eq, g_ne (by decide)]; exact w1) (by rw [u1_eq, g_eq (by omega)]))
      repeat (first | exact le_0 | refine le_s ?_ | refine le_n ?_)
    refine run_L_lay 8 ?_
    refine And.intro (fun _ => ?_) (fun _ => ?_)
    · refine run_L_lay 5 ?_
      refine And.intro rfl (s_Llow (m := 9) rfl (by decide) (by decide) (fun r hr => ?_))
      exact K89 r (by omega)
    · refine run_L_lay 5 ?_
      refine And.intro rfl (s_Llow (m := 100) rfl (by decide) (by decide) (fun r hr => ?_))
      refine run_L_lay 1 ?_
      exact K89 r hr
  have K21 : ∀ (n : Nat) (L : Nat → List Int32), 2 ≤ n → n ≤ 6 → (∀ x, ¬ x = 42 → L x = l x) → (L 42).length = 22 → (L 42).getD 0 0 = nI n → ba_go (some sc) ix_L_lay 21 (YL [some (.int c), none, none, none, none, none, none, none, none]) [] (wW f L q) 0 0 P := by
    intro n L hn2 hn6 hfr hlen w0
    have K53 : ∀ A : Nat, A < 100 → ba_go (some sc) ix_L_lay 53 (YL [some (.int c), none, none, none, none, none, none, none, none]) [.int (nI A), .int (Int32.ofInt 1), .ref 43] (wW f L q) 0 0 P := by
      intro A hA
      have st := stW (f := f) (l := L) (q := q) hlen (i := 1) (v := nI A) (by decide) (x := Int32.ofInt 1) rfl
      refine run_L_lay 1 ?_
      refine Exists.intro _ (And.intro (st) ?_)
      exact K54 n A _ hn2 hn6 hA (fun x hx => by rw [u1_ne hx]; exact hfr x hx) (by rw [u1_eq, List.length_set]; exact hlen) (by rw [u1_eq, g_ne (by decide)]; exact w0) (by rw [u1_eq, g_eq (by omega)])
    refine run_L_lay 8 ?_
    refine And.intro (fun _ => ?_) (fun _ => ?_)
    · refine run_L_lay 5 ?_
      refine And.intro rfl (s_Llow (m := 9) rfl (by decide) (by decide) (fun r hr => ?_))
      exact K53 r (by omega)
    · refine run_L_lay 5 ?_
      refine And.intro rfl (s_Llow (m := 100) rfl (by decide) (by decide) (fun r hr => ?_))
      refine run_L_lay 1 ?_
      exact K53 r hr
  refine run_L_lay 9 ?_
  refine And.intro rfl (s_Llow (m := 5) (by decide) (by decide) (by decide) (fun r hr => ?_))
  have st := stW (f := f) (l := l) (q := q) h42 (i := 0) (v := nI (2 + r)) (by decide) (x := Int32.ofInt 0) rfl
  have e2r : Int32.ofInt 2 + nI r = nI (2 + r) := nI_add 2 r
  rw [← e2r] at st
  refine run_L_lay 2 ?_
  refine Exists.intro _ (And.intro (st) ?_)
  rw [e2r]
  exact K21 (2 + r) _ (by omega) (by omega) (fun x hx => u1_ne hx) (by rw [u1_eq, List.length_set]; exact h42) (by rw [u1_eq, g_eq (by omega)])
end LN
